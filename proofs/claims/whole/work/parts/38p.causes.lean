/-! the steps of the law: began, why -/
theorem x_take_L {rk rf rs : Nat → Int32} : ∀ (n k : Nat) (tk tf ts : Nat → Int32), 12 - k < n → (∀ q : Nat, q < k → tk q = rk q ∧ tf q = rf q ∧ ts q = rs q) → ∀ q : Nat, q < 12 → (F_X3_take_L82 rk rf rs n k tk tf ts).1 q = rk q ∧ (F_X3_take_L82 rk rf rs n k tk tf ts).2.1 q = rf q ∧ (F_X3_take_L82 rk rf rs n k tk tf ts).2.2 q = rs q := by
  intro n
  induction n with
  | zero => intro k tk tf ts a; exact absurd a (Nat.not_lt_zero _)
  | succ n ih =>
    intro k tk tf ts a h q hq
    rw [F_X3_take_L82]
    by_cases c : 12 ≤ k
    · rw [if_pos c]; exact h q (by omega)
    · rw [if_neg c]
      repeat rw [x_nmE]
      refine ih (k + 1) _ _ _ (by omega) (fun q hq => ?_) q hq
      by_cases e : q = k
      · subst e
        rw [x_updS, x_updS, x_updS]
        exact ⟨rfl, rfl, rfl⟩
      · rw [x_updN _ _ e, x_updN _ _ e, x_updN _ _ e]
        exact h q (by omega)
theorem x_hot_L {m : Nat} {kinds : Nat → Int32} {more : Int32} (hm : m ≤ 12) : ∀ (n k : Nat) (firsts : Nat → Int32), m - k < n → ∀ q : Nat, F_X3_heatFires_L2 m kinds more n k firsts q = if k ≤ q ∧ q < m ∧ kinds q = 0 then (if firsts q + more < 300 then firsts q + more else 300) else firsts q := by
  intro n
  induction n with
  | zero => intro k firsts a; exact absurd a (Nat.not_lt_zero _)
  | succ n ih =>
    intro k firsts a q
    rw [F_X3_heatFires_L2]
    by_cases c : m ≤ k
    · rw [if_pos c, if_neg (fun z => by omega)]
    · rw [if_neg c, if_neg (by omega)]
      by_cases c2 : kinds k = 0
      · rw [if_pos c2]
        repeat rw [x_nmE]
        rw [ih (k + 1) _ (by omega) q]
        by_cases e : q = k
        · subst e
          rw [if_neg (fun z => by omega), x_updS, if_pos (show q ≤ q ∧ q < m ∧ kinds q = 0 from ⟨Nat.le_refl _, by omega, c2⟩)]
        · rw [x_updN _ _ e]
          by_cases c3 : k + 1 ≤ q ∧ q < m ∧ kinds q = 0
          · rw [if_pos c3, if_pos (show k ≤ q ∧ q < m ∧ kinds q = 0 from ⟨by omega, c3.2⟩)]
          · rw [if_neg c3, if_neg (fun z => c3 ⟨by omega, z.2⟩)]
      · rw [if_neg c2, x_nmE, ih (k + 1) _ (by omega) q]
        by_cases e : q = k
        · subst e
          rw [if_neg (fun z => by omega), if_neg (fun z => c2 z.2.2)]
        · by_cases c3 : k + 1 ≤ q ∧ q < m ∧ kinds q = 0
          · rw [if_pos c3, if_pos (show k ≤ q ∧ q < m ∧ kinds q = 0 from ⟨by omega, c3.2⟩)]
          · rw [if_neg c3, if_neg (fun z => c3 ⟨by omega, z.2⟩)]
def x_fullOf (is : Nat → Int32) (c v : Nat) : Int32 := if nI c = 2 then if is 2 + 4 * nI v ≤ 99 then is 2 + 4 * nI v else 99 else is 2
def x_skinOf (is : Nat → Int32) (c v : Nat) : Int32 := if nI c = 4 then if 1 ≤ is 1 - 10 * nI v then is 1 - 10 * nI v else 1 else is 1
def x_isOf (is : Nat → Int32) (c v : Nat) : Nat → Int32 := upd (upd is 2 (x_fullOf is c v)) 1 (x_skinOf is c v)
def x_hotOf (c v : Nat) : Int32 := if nI c = 3 then 10 * nI v else 0
def x_setOf (c f : Nat) : Int32 := if nI c = 1 then 1 <<< ((nI f) &&& 31) else 0
theorem x_isBack (is : Nat → Int32) (c v : Nat) : upd (upd (x_isOf is c v) 2 (is 2)) 1 (is 1) = is := by
  funext q
  by_cases c1 : q = 1
  · subst c1; rw [x_updS]
  · rw [x_updN _ _ c1]
    by_cases c2 : q = 2
    · subst c2; rw [x_updS]
    · rw [x_updN _ _ c2, x_isOf, x_updN _ _ c1, x_updN _ _ c2]
theorem x_change {r0 r1 r2 r3 r4 r5 r6 r7 r8 : Int32} {n c v : Nat} {kinds firsts secs is doings doing ck cf cs : Nat → Int32} (h : RelRec (r0, r1, r2, r3, r4, r5, r6, r7, r8, n, kinds, firsts, secs) is doings doing) (hc : c ≤ 4) (hv : v ≤ 9) :
    ∃ (skin filling : Int32) (kinds' firsts' secs' : Nat → Int32), F_X4_changeBy r0 r1 r2 r3 r4 r5 r6 r7 r8 n kinds firsts secs ck cf cs (nI c) (nI v) = (r0, skin, filling, r3, r4, r5, r6, r7, r8, n, kinds', firsts', secs') ∧ RelRp (r0, skin, filling, r4, r5, r7, r8) (x_isOf is c v) ∧ RelPl n kinds' firsts' secs' (x_hotOf c v) doings doing ∧ ∀ k : Nat, k < 12 → (secs' k).toNatClampNeg ≤ 99 ∧ secs' k = nI (secs' k).toNatClampNeg := by
  obtain ⟨⟨⟨hR, -⟩, hn, hsec, hd⟩, ⟨e0, e1, e2, e3, e4, e5, e6, e7, e8⟩, h0, hk⟩ := h
  obtain ⟨⟨tk, tf, ts⟩, hT⟩ : ∃ o, F_X3_take_L82 kinds firsts secs (12 + 1) 0 ck cf cs = o := ⟨_, rfl⟩
  have ht := x_take_L (rk := kinds) (rf := firsts) (rs := secs) (12 + 1) 0 ck cf cs (by omega) (fun q hq => absurd hq (Nat.not_lt_zero _))
  rw [hT] at ht
  have hv10 : (10 : Int32) * nI v = nI (10 * v) := pk_mul 10 v
  have hrp : ∀ skin filling : Int32, skin = x_skinOf is c v → filling = x_fullOf is c v → RelRp (r0, skin, filling, r4, r5, r7, r8) (x_isOf is c v) := by
    intro skin filling q1 q2
    refine ⟨hR, ?_, ?_, ?_, ?_, ?_, ?_, ?_⟩
    · rw [x_isOf, x_updN _ _ (by omega), x_updN _ _ (by omega), e0]
    · rw [x_isOf, x_updS, q1]
    · rw [x_isOf, x_updN _ _ (by omega), x_updS, q2]
    · rw [x_isOf, x_updN _ _ (by omega), x_updN _ _ (by omega), e4]
    · rw [x_isOf, x_updN _ _ (by omega), x_updN _ _ (by omega), e5]
    · rw [x_isOf, x_updN _ _ (by omega), x_updN _ _ (by omega), e7]
    · rw [x_isOf, x_updN _ _ (by omega), x_updN _ _ (by omega), e8]
  have hpl : ∀ F : Nat → Int32, (∀ k : Nat, k < n → F k = if nI c = 3 ∧ kinds k = 0 then (if firsts k + 10 * nI v < 300 then firsts k + 10 * nI v else 300) else firsts k) → RelPl n tk F ts (x_hotOf c v) doings doing := by
    intro F hF
    refine ⟨hn, h0, fun k hkn => ?_⟩
    obtain ⟨k1, k2, k3⟩ := hk k (by omega : k < n)
    obtain ⟨t1, t2, t3⟩ := ht k (by omega)
    dsimp only at t1 t2 t3
    rw [t1, t3, k1, k3]
    refine ⟨rfl, rfl, (hsec k (by omega)).1, ?_⟩
    have hFk := hF k hkn
    rcases hd k hkn with ⟨q1, q2, q3⟩ | ⟨q1, q2, q3⟩ | ⟨q1, q2, q3⟩ | ⟨q1, q2, q3⟩
    · refine Or.inl ⟨Or.inl q1, ?_, ?_⟩
      · rw [hFk, x_heat, k1, if_pos q1, k2]
        by_cases c3 : nI c = 3
        · rw [if_pos ⟨c3, q1⟩, x_hotOf, if_pos c3, x_minc 300]
        · rw [if_neg (fun z => c3 z.1), x_hotOf, if_neg c3, Int32.add_zero, if_pos]
          rw [Int32.le_iff_toInt_le, show (300 : Int32).toInt = 300 by decide]
          exact q2.2
      · rw [hFk]
        by_cases c3 : nI c = 3
        · rw [if_pos ⟨c3, q1⟩, hv10]
          have e := x_bAdd q2 (x_btw_nI (lo := 0) (hi := 90) (k := 10 * v) (by omega) (by omega) (by decide)) (by decide) (by decide)
          have e2 : (nI (10 * v)).toInt = (10 * v : Nat) := nI_toInt (by omega)
          obtain ⟨p1, p2⟩ := q2
          by_cases c4 : firsts k + nI (10 * v) < 300
          · rw [if_pos c4]
            rw [Int32.lt_iff_toInt_lt, show (300 : Int32).toInt = 300 by decide] at c4
            exact ⟨by omega, by omega⟩
          · rw [if_neg c4]; exact ⟨by decide, by decide⟩
        · rw [if_neg (fun z => c3 z.1)]; exact q2
    · have n0 : ¬ kinds k = 0 := by rw [q1]; decide
      refine Or.inr (Or.inl ⟨q1, ?_, ?_, q3⟩)
      · rw [hFk, if_neg (fun z => n0 z.2), k2]
      · rw [hFk, if_neg (fun z => n0 z.2)]; exact q2
    · have n0 : ¬ kinds k = 0 := by rw [q1]; decide
      refine Or.inr (Or.inr ⟨q1, ?_, ?_, q3⟩)
      · rw [hFk, if_neg (fun z => n0 z.2), k2]
      · rw [hFk, if_neg (fun z => n0 z.2)]; exact q2
    · have n0 : ¬ kinds k = 0 := by rw [q1]; decide
      have q4 := x_bW (c := 0) (d := 300) q2 (by decide) (by decide)
      refine Or.inl ⟨Or.inr q1, ?_, ?_⟩
      · rw [hFk, if_neg (fun z => n0 z.2), x_heat, k1, if_neg n0, k2, if_pos]
        rw [Int32.le_iff_toInt_le, show (300 : Int32).toInt = 300 by decide]
        exact q4.2
      · rw [hFk, if_neg (fun z => n0 z.2)]; exact q4
  have hsec2 : ∀ k : Nat, k < 12 → (ts k).toNatClampNeg ≤ 99 ∧ ts k = nI (ts k).toNatClampNeg := fun k hk2 => by
    have t3 := (ht k hk2).2.2
    dsimp only at t3
    rw [t3]
    exact hsec k hk2
  have tf0 : ∀ k : Nat, k < n → tf k = firsts k := fun k hkn => (ht k (by omega)).2.1
  have tk0 : ∀ k : Nat, k < n → tk k = kinds k := fun k hkn => (ht k (by omega)).1
  rw [F_X4_changeBy, F_X3_take, hT]
  repeat rw [x_nmE]
  dsimp only
  have plain : ¬ nI c = 3 → RelPl n tk tf ts (x_hotOf c v) doings doing := fun c3 => hpl tf (fun k hkn => by rw [if_neg (fun z => c3 z.1), tf0 k hkn])
  by_cases c2 : nI c = 2
  · have n3 : ¬ nI c = 3 := by rw [c2]; decide
    have n4 : ¬ nI c = 4 := by rw [c2]; decide
    rw [if_pos c2]
    refine ⟨_, _, _, _, _, rfl, hrp _ _ ?_ ?_, plain n3, hsec2⟩
    · rw [x_skinOf, if_neg n4, e1]
    · rw [x_fullOf, if_pos c2, e2, x_minc 99]
  · rw [if_neg c2]
    by_cases c3 : nI c = 3
    · have n4 : ¬ nI c = 4 := by rw [c3]; decide
      rw [if_pos c3]
      refine ⟨_, _, _, _, _, rfl, hrp _ _ ?_ ?_, hpl _ (fun k hkn => ?_), hsec2⟩
      · rw [x_skinOf, if_neg n4, e1]
      · rw [x_fullOf, if_neg c2, e2]
      · dsimp only
        rw [F_X3_heatFires, x_nmE, x_hot_L hn _ _ _ (by omega) k, tf0 k hkn, tk0 k hkn]
        by_cases c5 : kinds k = 0
        · rw [if_pos (show 0 ≤ k ∧ k < n ∧ kinds k = 0 from ⟨Nat.zero_le _, hkn, c5⟩), if_pos (show nI c = 3 ∧ kinds k = 0 from ⟨c3, c5⟩)]
        · rw [if_neg (fun z => c5 z.2.2), if_neg (fun z => c5 z.2)]
    · rw [if_neg c3]
      by_cases c4 : nI c = 4
      · rw [if_pos c4]
        refine ⟨_, _, _, _, _, rfl, hrp _ _ ?_ ?_, plain c3, hsec2⟩
        · rw [x_skinOf, if_pos c4, e1, x_maxc 1]
        · rw [x_fullOf, if_neg c2, e2]
      · rw [if_neg c4]
        refine ⟨_, _, _, _, _, rfl, hrp _ _ ?_ ?_, plain c3, hsec2⟩
        · rw [x_skinOf, if_neg c4, e1]
        · rw [x_fullOf, if_neg c2, e2]
def x_gv (J : TJ) (T f : Nat) : Int32 := if jWhen J = nI T then if jGone J = 1 then if jSplit J = nI f then 1 else 0 else 0 else 0
theorem x_goesR {is doings doing kinds firsts secs row dg br : Nat → Int32} {rp : TRP} {n T f c v : Nat} {water : Int32} (hrp : RelRp rp (x_isOf is c v)) (hpl : RelPl n kinds firsts secs (x_hotOf c v) doings doing) (hw : is 3 = water) (hb : Btw 0 water 999) (hf : f ≤ 3) :
    JT (x_tot secs n 0) (x_pl rp kinds firsts secs n 0 (F_X0_setOut dg br water (x_setOf c f))) ∧ ∃ (tw tm ta th : Int32) (row' : Nat → Int32), F_X5_goesSo is doings doing row (nI T) (nI f) (nI c) (nI v) = (x_gv (x_pl rp kinds firsts secs n 0 (F_X0_setOut dg br water (x_setOf c f))) T f, tw, tm, ta, th, is, row') ∧ ∀ q : Nat, q < 60 → row' q = row q := by
  have hset : Btw 0 (x_setOf c f) 15 := by
    rw [x_setOf]
    by_cases c1 : nI c = 1
    · rw [if_pos c1]
      have e : f = 0 ∨ f = 1 ∨ f = 2 ∨ f = 3 := by omega
      rcases e with rfl | rfl | rfl | rfl <;> exact ⟨by decide, by decide⟩
    · rw [if_neg c1]; exact ⟨by decide, by decide⟩
  have hw' : x_isOf is c v 3 = water := by rw [x_isOf, x_updN _ _ (by omega), x_updN _ _ (by omega), hw]
  obtain ⟨f1, f2, f3, row0, f4, f5, f6⟩ := x_fresh5 (row := row) (dg := dg) (br := br) hw' hb hset
  obtain ⟨p1, tw1, tm1, ta1, th1, row1, p2, p3, p4⟩ := x_plan5A (s := 0) hrp hpl (by omega) f1 f5
  rw [Nat.zero_add] at p1
  refine And.intro p1 ⟨tw1, tm1, ta1, th1, row1, ?_, fun q hq => (p4 q hq).trans (f6 q hq)⟩
  rw [F_X5_goesSo]
  repeat rw [x_nmE]
  rw [show upd (upd is 2 (if nI c = 2 then if is 2 + 4 * nI v ≤ 99 then is 2 + 4 * nI v else 99 else is 2)) 1 (if nI c = 4 then if 1 ≤ is 1 - 10 * nI v then is 1 - 10 * nI v else 1 else is 1) = x_isOf is c v from rfl]
  rw [show (if nI c = 1 then (1 : Int32) <<< (nI f &&& 31) else 0) = x_setOf c f from rfl, show (if nI c = 3 then (10 : Int32) * nI v else 0) = x_hotOf c v from rfl]
  rw [f4]
  dsimp only
  rw [p2]
  dsimp only
  rw [x_isBack]
  generalize x_pl rp kinds firsts secs n 0 (F_X0_setOut dg br water (x_setOf c f)) = J at p3
  obtain ⟨wh, gr, ga, hi, down, core, wat, pricked, thin, seconds, gone, splitAt, steam, degrees, brown⟩ := J
  have q1 : wh = tw1 := p3.1.1
  have q2 : row1 73 = gone := p3.2.2.2.2.2.2.2.2.1
  have q3 : row1 74 = splitAt := p3.2.2.2.2.2.2.2.2.2.1
  show ((if tw1 = nI T then if row1 73 = 1 then if row1 74 = nI f then (1 : Int32) else 0 else 0 else 0), tw1, tm1, ta1, th1, is, row1) = _
  rw [q2, q3, ← q1]
  rfl
/-- how it stands with one try: 1 or 0 -/
def x_g (is doings doing : Nat → Int32) (T f c v : Nat) : Int32 := (F_X5_goesSo is doings doing (fun _ => 0) (nI T) (nI f) (nI c) (nI v)).1
def x_ccnt (g : Nat → Int32) : Nat → Nat → Nat
  | 0, _ => 0
  | m + 1, k => (if g k = 0 then 0 else 1) + x_ccnt g m (k + 1)
theorem x_ccnt_le (g : Nat → Int32) : ∀ m k : Nat, x_ccnt g m k ≤ m := by
  intro m
  induction m with
  | zero => intro k; exact Nat.le_refl _
  | succ m ih =>
    intro k
    rw [x_ccnt]
    have := ih (k + 1)
    split <;> omega
/-- the class's try -/
theorem x_tryC {kinds firsts secs : Nat → Int32} {rp : TRP} {n T f : Nat} {J : TJ} (hn : n ≤ 12) (ht : x_tot secs n 0 ≤ 1188) (hT : T ≤ 999) (h1 : JT 0 J) {o : TO} (ho : x_f3 rp n kinds firsts secs (nI T) 1 (12 + 1) 0 J = o) {α : Type} (X Y : α) :
    (if oWhen o = nI T then if oGone o = 1 then if oSplit o = nI f then X else Y else Y else Y) = (if x_gv (x_pl rp kinds firsts secs n 0 J) T f = 0 then Y else X) := by
  have hf := x_follow (rp := rp) (kinds := kinds) (firsts := firsts) (secs := secs) (a3 := 1) (L := T) (doings := n) (by omega) hn (12 + 1) 0 0 J (by omega) (by rw [Nat.sub_zero]; omega) h1 o ho
  rw [Nat.sub_zero] at hf
  have same : OSame o (x_pl rp kinds firsts secs n 0 J) → (if oWhen o = nI T then if oGone o = 1 then if oSplit o = nI f then X else Y else Y else Y) = (if x_gv (x_pl rp kinds firsts secs n 0 J) T f = 0 then Y else X) := by
    rintro ⟨q1, q2, q3⟩
    rw [q1, q2, q3, x_gv]
    by_cases a1 : jWhen (x_pl rp kinds firsts secs n 0 J) = nI T
    · rw [if_pos a1, if_pos a1]
      by_cases a2 : jGone (x_pl rp kinds firsts secs n 0 J) = 1
      · rw [if_pos a2, if_pos a2]
        by_cases a3 : jSplit (x_pl rp kinds firsts secs n 0 J) = nI f
        · rw [if_pos a3, if_pos a3, if_neg (by decide)]
        · rw [if_neg a3, if_neg a3, if_pos rfl]
      · rw [if_neg a2, if_neg a2, if_pos rfl]
    · rw [if_neg a1, if_neg a1, if_pos rfl]
  rcases hf with q | ⟨-, -, q⟩ | ⟨-, ⟨-, q⟩ | ⟨q1, q2, q3⟩⟩
  · subst q; exact same ⟨rfl, rfl, rfl⟩
  · exact same q
  · exact same q
  · have e : x_gv (x_pl rp kinds firsts secs n 0 J) T f = 0 := by
      rw [x_gv]
      rcases q3 with q3 | ⟨w, w1, w2, w3⟩
      · rw [q3, if_neg (show ¬ (0 : Int32) = 1 by decide), ite_self]
      · rw [w3, if_neg]
        intro q
        have := (nI_eq (by omega) (by omega)).mp q
        omega
    rw [e, if_pos rfl, q2, if_neg]
    intro q
    exact x_nI9 (by omega) q.symm
theorem x_times_L {r0 r1 r2 r3 r4 r5 r6 r7 r8 : Int32} {n c T f tries : Nat} {kinds firsts secs is doings doing : Nat → Int32} (h : RelRec (r0, r1, r2, r3, r4, r5, r6, r7, r8, n, kinds, firsts, secs) is doings doing) (hc : c ≤ 4) (hT : T ≤ 999) (hf : f ≤ 3) (htr : tries ≤ 9) :
    ∀ (m k a : Nat) (d0 d1 d2 d3 d4 d5 d6 d7 d8 : Int32) (dn : Nat) (dk df ds : Nat → Int32) (wh gr ga hi down core wat pricked thin seconds gone splitAt steam : Int32) (degrees brown : Nat → Int32), tries + 1 - k < m →
      (F_X4_timesOf_L23 r0 r1 r2 r3 r4 r5 r6 r7 r8 n kinds firsts secs (nI c) (nI T) f tries m (nI a) k d0 d1 d2 d3 d4 d5 d6 d7 d8 dn dk df ds wh gr ga hi down core wat pricked thin seconds gone splitAt steam degrees brown).1 = nI (a + x_ccnt (x_g is doings doing T f c) (tries + 1 - k) k) := by
  have hwb : Btw 0 r3 999 := h.1.1.2.2.2.1
  have hw : is 3 = r3 := h.2.1.2.2.2.1
  intro m
  induction m with
  | zero => intro k a d0 d1 d2 d3 d4 d5 d6 d7 d8 dn dk df ds wh gr ga hi down core wat pricked thin seconds gone splitAt steam degrees brown q; exact absurd q (Nat.not_lt_zero _)
  | succ m ih =>
    intro k a d0 d1 d2 d3 d4 d5 d6 d7 d8 dn dk df ds wh gr ga hi down core wat pricked thin seconds gone splitAt steam degrees brown q
    rw [F_X4_timesOf_L23]
    by_cases c1 : tries < k
    · rw [if_pos c1, show tries + 1 - k = 0 by omega]
      rfl
    · rw [if_neg c1]
      obtain ⟨skin, filling, kinds', firsts', secs', e1, e2, e3, e4⟩ := x_change (ck := dk) (cf := df) (cs := ds) (c := c) (v := k) h hc (by omega)
      have hg := x_goesR (row := fun _ => 0) (dg := degrees) (br := brown) (T := T) (f := f) e2 e3 hw hwb hf
      obtain ⟨-, tw, tm, ta, th, row', g1, -⟩ := hg
      have gE : x_g is doings doing T f c k = x_gv (x_pl (r0, skin, filling, r4, r5, r7, r8) kinds' firsts' secs' n 0 (F_X0_setOut degrees brown r3 (x_setOf c f))) T f := by
        rw [x_g, g1]
      have hset : Btw 0 (x_setOf c f) 15 := by
        rw [x_setOf]
        by_cases c1 : nI c = 1
        · rw [if_pos c1]
          have e : f = 0 ∨ f = 1 ∨ f = 2 ∨ f = 3 := by omega
          rcases e with rfl | rfl | rfl | rfl <;> exact ⟨by decide, by decide⟩
        · rw [if_neg c1]; exact ⟨by decide, by decide⟩
      obtain ⟨f1, f2, f3, row0, f4, f5, f6⟩ := x_fresh5 (row := fun _ => 0) (dg := degrees) (br := brown) hw hwb hset
      rw [e1, x_nmE, x_nmE, x_nmE]
      rw [show (if nI c = 1 then (1 : Int32) <<< (nI f &&& 31) else 0) = x_setOf c f from rfl]
      dsimp only
      generalize F_X0_setOut degrees brown r3 (x_setOf c f) = J at f1 gE
      obtain ⟨wh', gr', ga', hi', down', core', wat', pricked', thin', seconds', gone', splitAt', steam', degrees', brown'⟩ := J
      dsimp only
      obtain ⟨o, ho⟩ : ∃ o, x_f3 (r0, skin, filling, r4, r5, r7, r8) n kinds' firsts' secs' (nI T) 1 (12 + 1) 0 (wh', gr', ga', hi', down', core', wat', pricked', thin', seconds', gone', splitAt', steam', degrees', brown') = o := ⟨_, rfl⟩
      have ho2 : F_X0_follow wh' gr' ga' hi' down' degrees' brown' core' wat' pricked' thin' seconds' gone' splitAt' steam' r0 skin filling r4 r5 r7 r8 n kinds' firsts' secs' (nI T) 1 = o := ho
      have htr2 := x_tryC (T := T) (f := f) h.1.2.1 (x_tot_pl e3) hT f1 ho (nI a + 1) (nI a)
      rw [← gE] at htr2
      rw [ho2, x_nmE]
      have htr3 : (if o.1 = nI T then if o.2.2.2.2.2.2.2.2.2.1 = 1 then if o.2.2.2.2.2.2.2.2.2.2.1 = nI f then nI a + 1 else nI a else nI a else nI a) = nI (a + (if x_g is doings doing T f c k = 0 then 0 else 1)) := by
        refine Eq.trans htr2 ?_
        split
        · rfl
        · exact nI_1 a
      rw [htr3, x_nmE]
      rw [ih, show tries + 1 - k = (tries + 1 - (k + 1)) + 1 by omega, x_ccnt, Nat.add_assoc]
      omega
/-- the class's count -/
theorem x_gNo {is doings doing : Nat → Int32} {T f c v : Nat} (hc : c = 0 ∨ c = 1) : x_g is doings doing T f c v = x_g is doings doing T f c 1 := by
  rcases hc with rfl | rfl
  · rw [x_g, x_g, F_X5_goesSo, F_X5_goesSo]
    simp only [if_neg (show ¬ nI 0 = 2 by decide), if_neg (show ¬ nI 0 = 4 by decide), if_neg (show ¬ nI 0 = 3 by decide)]
  · rw [x_g, x_g, F_X5_goesSo, F_X5_goesSo]
    simp only [if_neg (show ¬ nI 1 = 2 by decide), if_neg (show ¬ nI 1 = 4 by decide), if_neg (show ¬ nI 1 = 3 by decide)]
theorem x_cntNo {g : Nat → Int32} (h : ∀ v : Nat, g v = g 1) : ∀ m k : Nat, x_ccnt g m k = m * x_ccnt g 1 1 := by
  intro m
  induction m with
  | zero => intro k; rw [x_ccnt, Nat.zero_mul]
  | succ m ih =>
    intro k
    rw [x_ccnt, ih, h k, x_ccnt, x_ccnt, Nat.add_zero, Nat.succ_mul, Nat.add_comm]
theorem x_times {r0 r1 r2 r3 r4 r5 r6 r7 r8 : Int32} {n c T f : Nat} {kinds firsts secs is doings doing : Nat → Int32} (h : RelRec (r0, r1, r2, r3, r4, r5, r6, r7, r8, n, kinds, firsts, secs) is doings doing) (hc : c ≤ 4) (hT : T ≤ 999) (hf : f ≤ 3)
    (d0 d1 d2 d3 d4 d5 d6 d7 d8 : Int32) (dn : Nat) (dk df ds : Nat → Int32) (wh gr ga hi down core wat pricked thin seconds gone splitAt steam : Int32) (degrees brown : Nat → Int32) :
      (F_X4_timesOf r0 r1 r2 r3 r4 r5 r6 r7 r8 n kinds firsts secs d0 d1 d2 d3 d4 d5 d6 d7 d8 dn dk df ds wh gr ga hi down degrees brown core wat pricked thin seconds gone splitAt steam (nI c) (nI T) f).1 = nI (x_ccnt (x_g is doings doing T f c) 9 1) := by
  rw [F_X4_timesOf, x_nmE, x_nmE, x_nmE]
  dsimp only
  by_cases c0 : c = 0 ∨ c = 1
  · have e : (if nI c = 0 then 1 else if nI c = 1 then 1 else 9) = 1 := by
      rcases c0 with rfl | rfl <;> decide
    rw [e, if_pos rfl]
    have l := x_times_L (tries := 1) h hc hT hf (by omega) (1 + 1 + 1) 1 0 d0 d1 d2 d3 d4 d5 d6 d7 d8 dn dk df ds wh gr ga hi down core wat pricked thin seconds gone splitAt steam degrees brown (by omega)
    rw [nI_0] at l
    rw [l, Nat.zero_add, show (9 : Int32) = nI 9 from rfl, pk_mul]
    rw [x_cntNo (g := x_g is doings doing T f c) (fun v => x_gNo c0) 9 1, Nat.mul_comm]
  · have n0 : ¬ nI c = 0 := fun q => c0 (Or.inl ((nI_eq (b := 0) (by omega) (by omega)).mp q))
    have n1 : ¬ nI c = 1 := fun q => c0 (Or.inr ((nI_eq (b := 1) (by omega) (by omega)).mp q))
    rw [if_neg n0, if_neg n1, if_neg (by decide)]
    have l := x_times_L (tries := 9) h hc hT hf (by omega) (9 + 1 + 1) 1 0 d0 d1 d2 d3 d4 d5 d6 d7 d8 dn dk df ds wh gr ga hi down core wat pricked thin seconds gone splitAt steam degrees brown (by omega)
    rw [nI_0] at l
    rw [l, Nat.zero_add]
/-- the reference's count -/
theorem x_begun_L {r0 r1 r2 r3 r4 r5 r6 r7 r8 : Int32} {n c T f : Nat} {kinds firsts secs is doings doing : Nat → Int32} (h : RelRec (r0, r1, r2, r3, r4, r5, r6, r7, r8, n, kinds, firsts, secs) is doings doing) (hc : c ≤ 4) (hf : f ≤ 3) :
    ∀ (m k a : Nat) (tw tm ta th : Int32) (row : Nat → Int32), 10 - k < m → ∃ (tw' tm' ta' th' : Int32) (row' : Nat → Int32), F_X5_begun_L6 doings doing (nI T) (nI f) (nI c) m a k tw tm ta th is row = (a + x_ccnt (x_g is doings doing T f c) (10 - k) k, tw', tm', ta', th', is, row') ∧ ∀ q : Nat, q < 60 → row' q = row q := by
  have hwb : Btw 0 r3 999 := h.1.1.2.2.2.1
  have hw : is 3 = r3 := h.2.1.2.2.2.1
  intro m
  induction m with
  | zero => intro k a tw tm ta th row q; exact absurd q (Nat.not_lt_zero _)
  | succ m ih =>
    intro k a tw tm ta th row q
    rw [F_X5_begun_L6]
    by_cases c1 : 10 ≤ k
    · rw [if_pos c1, show 10 - k = 0 by omega]
      exact ⟨tw, tm, ta, th, row, rfl, fun _ _ => rfl⟩
    · rw [if_neg c1]
      obtain ⟨skin, filling, kinds', firsts', secs', e1, e2, e3, e4⟩ := x_change (ck := fun _ => 0) (cf := fun _ => 0) (cs := fun _ => 0) (c := c) (v := k) h hc (by omega)
      obtain ⟨-, tw0, tm0, ta0, th0, row0, g0, -⟩ := x_goesR (row := fun _ => 0) (dg := fun _ => 0) (br := fun _ => 0) (T := T) (f := f) e2 e3 hw hwb hf
      obtain ⟨-, tw1, tm1, ta1, th1, row1, g1, g2⟩ := x_goesR (row := row) (dg := fun _ => 0) (br := fun _ => 0) (T := T) (f := f) e2 e3 hw hwb hf
      have gE : x_g is doings doing T f c k = x_gv (x_pl (r0, skin, filling, r4, r5, r7, r8) kinds' firsts' secs' n 0 (F_X0_setOut (fun _ => 0) (fun _ => 0) r3 (x_setOf c f))) T f := by
        rw [x_g, g0]
      rw [← gE] at g1
      obtain ⟨tw2, tm2, ta2, th2, row2, l1, l2⟩ := ih (k + 1) (a + (if x_g is doings doing T f c k = 0 then 0 else 1)) tw1 tm1 ta1 th1 row1 (by omega)
      rw [g1, x_nmE, x_nmE]
      dsimp only
      rw [l1, show 10 - k = (10 - (k + 1)) + 1 by omega, x_ccnt, Nat.add_assoc]
      exact ⟨tw2, tm2, ta2, th2, row2, rfl, fun q hq => (l2 q hq).trans (g2 q hq)⟩
theorem x_begun {r0 r1 r2 r3 r4 r5 r6 r7 r8 : Int32} {n c T f : Nat} {kinds firsts secs is doings doing : Nat → Int32} (h : RelRec (r0, r1, r2, r3, r4, r5, r6, r7, r8, n, kinds, firsts, secs) is doings doing) (hc : c ≤ 4) (hf : f ≤ 3)
    (tw tm ta th : Int32) (row : Nat → Int32) : ∃ (tw' tm' ta' th' : Int32) (row' : Nat → Int32), F_X5_begun is doings doing row tw tm ta th (nI T) (nI f) (nI c) = (nI (x_ccnt (x_g is doings doing T f c) 9 1), tw', tm', ta', th', is, row') ∧ ∀ q : Nat, q < 60 → row' q = row q := by
  obtain ⟨tw', tm', ta', th', row', l1, l2⟩ := x_begun_L (T := T) h hc hf (10 + 1) 1 0 tw tm ta th row (by omega)
  rw [Nat.zero_add] at l1
  exact ⟨tw', tm', ta', th', row', by rw [F_X5_begun, x_nmE, l1], l2⟩
theorem x_cause_arg {a1 a2 a3 : Int32} : (F_X4_noBeginning a1 a2 a3 = 0 ∧ ¬ F_X5_isCause a1 a2 a3 = 0 ∧ ∃ T f c : Nat, a1 = nI T ∧ a2 = nI f ∧ a3 = nI c ∧ T ≤ 999 ∧ f ≤ 3 ∧ c ≤ 4) ∨ (¬ F_X4_noBeginning a1 a2 a3 = 0 ∧ F_X5_isCause a1 a2 a3 = 0) := by
  have one : ¬ (1 : Int32) = 0 := by decide
  simp only [F_X4_noBeginning, F_X5_isCause, x_nm]
  by_cases c1 : F_X4_outside a1 1 999 = 0
  · rw [if_pos c1, if_neg (x_ioN 1 999 (by decide) (by decide) c1)]
    obtain ⟨d1, d2, d3⟩ := x_outs (lo := 1) (hi := 999) (by decide) (by decide) c1
    by_cases c2 : F_X4_outside a2 0 3 = 0
    · rw [if_pos c2, if_neg (x_ioN 0 3 (by decide) (by decide) c2)]
      obtain ⟨f1, f2, f3⟩ := x_outs (lo := 0) (hi := 3) (by decide) (by decide) c2
      by_cases c3 : F_X4_outside a3 0 4 = 0
      · rw [if_pos c3, if_neg (x_ioN 0 4 (by decide) (by decide) c3)]
        obtain ⟨g1, g2, g3⟩ := x_outs (lo := 0) (hi := 4) (by decide) (by decide) c3
        exact Or.inl ⟨rfl, one, _, _, _, d3, f3, g3, d2, f2, g2⟩
      · rw [if_neg c3, if_pos (x_ioP 0 4 (by decide) (by decide) c3)]
        exact Or.inr ⟨one, rfl⟩
    · rw [if_neg c2, if_pos (x_ioP 0 3 (by decide) (by decide) c2)]
      exact Or.inr ⟨one, rfl⟩
  · rw [if_neg c1, if_pos (x_ioP 1 999 (by decide) (by decide) c1)]
    exact Or.inr ⟨one, rfl⟩
theorem s_began {t_kept : Nat → Int32} {t_heats : Nat → Int32} {t_salts : Nat → Int32} {t_crumbsOf : Nat → Int32} {t_tests : Nat} {t_traced : Int64} {r_radius : Int32} {r_skin : Int32} {r_filling : Int32} {r_water : Int32} {r_ends : Int32} {r_thin : Int32} {r_chance : Int32} {r_bentFace : Int32} {r_bentBy : Int32} {r_doings : Nat} {r_kinds : Nat → Int32} {r_firsts : Nat → Int32} {r_seconds : Nat → Int32} {d_seconds : Nat → Int32} {c_radius : Int32} {c_skin : Int32} {c_filling : Int32} {c_water : Int32} {c_ends : Int32} {c_thin : Int32} {c_chance : Int32} {c_bentFace : Int32} {c_bentBy : Int32} {c_doings : Nat} {c_kinds : Nat → Int32} {c_firsts : Nat → Int32} {c_seconds : Nat → Int32} {e_text : Nat → Int32} {e_length : Nat} {m_down : Int32} {m_degrees : Nat → Int32} {m_brown : Nat → Int32} {m_core : Int32} {m_water : Int32} {m_pricked : Int32} {m_thinSpots : Int32} {m_seconds : Int32} {m_gone : Int32} {m_splitAt : Int32} {m_steam : Int32} {j_when : Int32} {j_greatest : Int32} {j_greatestAt : Int32} {j_hiss : Int32} {jm_down : Int32} {jm_degrees : Nat → Int32} {jm_brown : Nat → Int32} {jm_core : Int32} {jm_water : Int32} {jm_pricked : Int32} {jm_thinSpots : Int32} {jm_seconds : Int32} {jm_gone : Int32} {jm_splitAt : Int32} {jm_steam : Int32} {i0_down : Int32} {i0_degrees : Nat → Int32} {i0_brown : Nat → Int32} {i0_core : Int32} {i0_water : Int32} {i0_pricked : Int32} {i0_thinSpots : Int32} {i0_seconds : Int32} {i0_gone : Int32} {i0_splitAt : Int32} {i0_steam : Int32} {i1_down : Int32} {i1_degrees : Nat → Int32} {i1_brown : Nat → Int32} {i1_core : Int32} {i1_water : Int32} {i1_pricked : Int32} {i1_thinSpots : Int32} {i1_seconds : Int32} {i1_gone : Int32} {i1_splitAt : Int32} {i1_steam : Int32} {u_length : Nat} {u_text : Nat → Int32} {u_is : Nat → Int32} {u_doings : Nat → Int32} {u_doing : Nat → Int32} {u_row : Nat → Int32} {u_isKept : Nat → Int32} {u_when : Int32} {u_most : Int32} {u_mostAt : Int32} {u_hiss : Int32} {u_heats : Nat → Int32} {u_orders : Nat → Int32} {u_tests : Nat} {u_salt : Nat → Int32} {u_crumbs : Nat → Int32} {u_traced : Int64} {a1 : Int32} {a2 : Int32} {a3 : Int32} {c_radius_325 : Int32} {c_skin_326 : Int32} {c_filling_327 : Int32} {c_water_328 : Int32} {c_ends_329 : Int32} {c_thin_330 : Int32} {c_chance_331 : Int32} {c_bentFace_332 : Int32} {c_bentBy_333 : Int32} {c_doings_334 : Nat} {c_kinds_335 : Nat → Int32} {c_firsts_336 : Nat → Int32} {c_seconds_337 : Nat → Int32} {j_when_338 : Int32} {j_greatest_339 : Int32} {j_greatestAt_340 : Int32} {j_hiss_341 : Int32} {jm_down_342 : Int32} {jm_core_343 : Int32} {jm_water_344 : Int32} {jm_pricked_345 : Int32} {jm_thinSpots_346 : Int32} {jm_seconds_347 : Int32} {jm_gone_348 : Int32} {jm_splitAt_349 : Int32} {jm_steam_350 : Int32} {jm_degrees_351 : Nat → Int32} {jm_brown_352 : Nat → Int32} {u_when_356 : Int32} {u_most_357 : Int32} {u_mostAt_358 : Int32} {u_hiss_359 : Int32} {u_is_360 : Nat → Int32} {u_row_361 : Nat → Int32} {z_353 z_362 : Int32} (hI : Inv (r_radius, r_skin, r_filling, r_water, r_ends, r_thin, r_chance, r_bentFace, r_bentBy, r_doings, r_kinds, r_firsts, r_seconds) e_length e_text (m_down, m_core, m_water, m_pricked, m_thinSpots, m_seconds, m_gone, m_splitAt, m_steam, m_degrees, m_brown) (i0_down, i0_core, i0_water, i0_pricked, i0_thinSpots, i0_seconds, i0_gone, i0_splitAt, i0_steam, i0_degrees, i0_brown) (i1_down, i1_core, i1_water, i1_pricked, i1_thinSpots, i1_seconds, i1_gone, i1_splitAt, i1_steam, i1_degrees, i1_brown) t_kept t_heats t_tests t_salts t_crumbsOf t_traced u_length u_text u_is u_doings u_doing u_row u_isKept u_heats u_orders u_tests u_salt u_crumbs u_traced d_seconds) (h4 : (z_353, c_radius_325, c_skin_326, c_filling_327, c_water_328, c_ends_329, c_thin_330, c_chance_331, c_bentFace_332, c_bentBy_333, c_doings_334, c_kinds_335, c_firsts_336, c_seconds_337, j_when_338, j_greatest_339, j_greatestAt_340, j_hiss_341, jm_down_342, jm_core_343, jm_water_344, jm_pricked_345, jm_thinSpots_346, jm_seconds_347, jm_gone_348, jm_splitAt_349, jm_steam_350, jm_degrees_351, jm_brown_352) = F_X4_began r_radius r_skin r_filling r_water r_ends r_thin r_chance r_bentFace r_bentBy r_doings r_kinds r_firsts r_seconds c_radius c_skin c_filling c_water c_ends c_thin c_chance c_bentFace c_bentBy c_doings c_kinds c_firsts c_seconds j_when j_greatest j_greatestAt j_hiss jm_down jm_degrees jm_brown jm_core jm_water jm_pricked jm_thinSpots jm_seconds jm_gone jm_splitAt jm_steam a1 a2 a3) (h5 : (z_362, u_when_356, u_most_357, u_mostAt_358, u_hiss_359, u_is_360, u_row_361) = F_X5_began u_is u_doings u_doing u_row u_when u_most u_mostAt u_hiss a1 a2 a3) : z_353 = z_362 ∧ Inv (r_radius, r_skin, r_filling, r_water, r_ends, r_thin, r_chance, r_bentFace, r_bentBy, r_doings, r_kinds, r_firsts, r_seconds) e_length e_text (m_down, m_core, m_water, m_pricked, m_thinSpots, m_seconds, m_gone, m_splitAt, m_steam, m_degrees, m_brown) (i0_down, i0_core, i0_water, i0_pricked, i0_thinSpots, i0_seconds, i0_gone, i0_splitAt, i0_steam, i0_degrees, i0_brown) (i1_down, i1_core, i1_water, i1_pricked, i1_thinSpots, i1_seconds, i1_gone, i1_splitAt, i1_steam, i1_degrees, i1_brown) t_kept t_heats t_tests t_salts t_crumbsOf t_traced u_length u_text u_is_360 u_doings u_doing u_row_361 u_isKept u_heats u_orders u_tests u_salt u_crumbs u_traced d_seconds := by
  have hrec := hI.1
  rw [F_X4_began, x_nmE] at h4
  rw [F_X5_began, x_nmE] at h5
  rcases x_cause_arg (a1 := a1) (a2 := a2) (a3 := a3) with ⟨q1, q2, T, f, c, rfl, rfl, rfl, b1, b2, b3⟩ | ⟨q1, q2⟩
  · rw [if_pos q1] at h4
    rw [if_neg q2] at h5
    repeat rw [x_nmE] at h4
    repeat rw [x_nmE] at h5
    rw [nI_clamp (by omega), nI_clamp (by omega), nI_clamp (by omega)] at h4 h5
    obtain ⟨tw', tm', ta', th', row', l1, l2⟩ := x_begun (T := T) hrec b3 b2 u_when u_most u_mostAt u_hiss u_row
    have l4 := x_times (T := T) hrec b3 b1 b2 c_radius c_skin c_filling c_water c_ends c_thin c_chance c_bentFace c_bentBy c_doings c_kinds c_firsts c_seconds j_when j_greatest j_greatestAt j_hiss jm_down jm_core jm_water jm_pricked jm_thinSpots jm_seconds jm_gone jm_splitAt jm_steam jm_degrees jm_brown
    rw [l1] at h5
    have h4 := congrArg (fun o => o.1) h4
    dsimp only at h4 h5
    rw [l4] at h4
    simp only [Prod.mk.injEq] at h5
    rw [h4, h5.1, h5.2.2.2.2.2.1, h5.2.2.2.2.2.2]
    exact And.intro rfl (x_inv_row hI l2)
  · rw [if_neg q1] at h4
    rw [if_pos q2, x_nmE] at h5
    have h4 := congrArg (fun o => o.1) h4
    dsimp only at h4 h5
    simp only [Prod.mk.injEq] at h5
    rw [h4, h5.1, h5.2.2.2.2.2.1, h5.2.2.2.2.2.2]
    exact And.intro rfl hI
