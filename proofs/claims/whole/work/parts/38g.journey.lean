/-! the steps of the law: a journey, as a function of its own -/
abbrev TRP : Type := Int32 × Int32 × Int32 × Int32 × Int32 × Int32 × Int32
abbrev TJ : Type := Int32 × Int32 × Int32 × Int32 × TMom
def RelRp (rp : TRP) (is : Nat → Int32) : Prop := match rp with
  | (radius, skin, filling, ends, thinBy, bentFace, bentBy) => Btw 1 radius 9 ∧ is 0 = radius ∧ is 1 = skin ∧ is 2 = filling ∧ is 4 = ends ∧ is 5 = thinBy ∧ is 7 = bentFace ∧ is 8 = bentBy
/-- one second of a journey -/
def x_jp (rp : TRP) (kind ht : Int32) (J : TJ) : TJ := match rp, J with
  | (radius, skin, filling, ends, thinBy, bentFace, bentBy), (wh, gr, ga, hi, down, core, water, pricked, thin, seconds, gone, splitAt, _, degrees, brown) =>
    match F_X0_passNoting wh gr ga hi down degrees brown core water pricked thin seconds gone splitAt radius skin filling ends thinBy bentFace bentBy kind ht with
    | (wh', gr', ga', hi', core', water', seconds', gone', splitAt', steam', degrees', brown') => (wh', gr', ga', hi', down, core', water', pricked, thin, seconds', gone', splitAt', steam', degrees', brown')
def x_jps (rp : TRP) (kind ht : Int32) : Nat → TJ → TJ
  | 0, J => J
  | n + 1, J => x_jps rp kind ht n (x_jp rp kind ht J)
/-- a turn, a prick -/
def x_jd (kind first : Int32) (J : TJ) : TJ := match J with
  | (wh, gr, ga, hi, down, core, water, pricked, thin, seconds, gone, splitAt, steam, degrees, brown) =>
    (wh, gr, ga, hi, (if kind = 1 then F_X1_turnBy down first else down), core, water, (if kind = 1 then pricked else if kind = 2 then F_X1_prickBy pricked first else pricked), thin, seconds, gone, splitAt, steam, degrees, brown)
def x_pl (rp : TRP) (kinds firsts secs : Nat → Int32) : Nat → Nat → TJ → TJ
  | 0, _, J => J
  | c + 1, k, J => x_pl rp kinds firsts secs c (k + 1) (x_jps rp (kinds k) (firsts k) (secs k).toNatClampNeg (x_jd (kinds k) (firsts k) J))
def x_tot (secs : Nat → Int32) : Nat → Nat → Nat
  | 0, _ => 0
  | c + 1, k => (secs k).toNatClampNeg + x_tot secs c (k + 1)
def JT (s : Nat) (J : TJ) : Prop := match J with
  | (wh, _, ga, hi, _, _, _, _, _, seconds, gone, _, _, _, _) => seconds = nI s ∧ ((gone = 0 ∧ wh = -9) ∨ (¬ gone = 0 ∧ ∃ w : Nat, w ≤ s ∧ wh = nI w)) ∧ (ga = -9 ∨ ∃ a : Nat, a ≤ s ∧ ga = nI a) ∧ (hi = -9 ∨ ∃ a : Nat, a ≤ s ∧ hi = nI a)
def JRel (J : TJ) (tw tm ta th : Int32) (row : Nat → Int32) : Prop := match J with
  | (wh, gr, ga, hi, mo) => (wh = tw ∧ gr = tm ∧ ga = ta ∧ hi = th) ∧ RelMom mo row 3
/-- the class's pass, spelled -/
theorem x_jpE {radius skin filling ends thinBy bentFace bentBy kind ht wh gr ga hi down core water pricked thin seconds gone splitAt steam z c w se g sp st : Int32} {degrees brown u br : Nat → Int32} (h : F_X1_pass down degrees brown core water pricked thin seconds gone splitAt radius skin filling ends thinBy bentFace bentBy kind ht = (z, c, w, se, g, sp, st, u, br)) :
    x_jp (radius, skin, filling, ends, thinBy, bentFace, bentBy) kind ht (wh, gr, ga, hi, down, core, water, pricked, thin, seconds, gone, splitAt, steam, degrees, brown) = ((if wh = -9 then if g = 0 then wh else se else wh), (if ga = -9 then z else if z ≤ gr then gr else z), (if ga = -9 then se else if z ≤ gr then ga else se), (if hi = -9 then if st ≤ 0 then hi else se else hi), down, c, w, pricked, thin, se, g, sp, st, u, br) := by
  simp only [x_jp, F_X0_passNoting, h, x_nm]
  by_cases c1 : ga = -9
  · rw [if_pos c1, if_pos c1, if_pos c1]
  · rw [if_neg c1, if_neg c1, if_neg c1]
    by_cases c2 : z ≤ gr
    · rw [if_pos c2, if_pos c2, if_pos c2]
    · rw [if_neg c2, if_neg c2, if_neg c2]
theorem x_nI9 {w : Nat} (h : w < 2 ^ 31) : ¬ nI w = -9 := by
  intro q
  have e := nI_toInt h
  rw [q, show (-9 : Int32).toInt = -9 by decide] at e
  omega
theorem x_tried {is row : Nat → Int32} {rp : TRP} {kind kind5 ht tw tm ta th : Int32} {J : TJ} {s : Nat} (hrp : RelRp rp is) (hk : (kind = 0 ∧ kind5 = 0) ∨ (¬ kind = 0 ∧ kind5 = 1)) (hh : Btw 0 ht 300) (hs : s < 1000000) (h1 : JT s J) (h2 : JRel J tw tm ta th row) :
    JT (s + 1) (x_jp rp kind ht J) ∧ ∃ (tw' tm' ta' th' : Int32) (row' : Nat → Int32), F_X5_tried is row tw tm ta th ht kind5 = (tw', tm', ta', th', row') ∧ JRel (x_jp rp kind ht J) tw' tm' ta' th' row' ∧ ∀ q : Nat, q < 60 → row' q = row q := by
  obtain ⟨radius, skin, filling, ends, thinBy, bentFace, bentBy⟩ := rp
  obtain ⟨wh, gr, ga, hi, down, core, water, pricked, thin, seconds, gone, splitAt, steam, degrees, brown⟩ := J
  obtain ⟨hR, e0, e1, e2, e4, e5, e7, e8⟩ := hrp
  obtain ⟨⟨rfl, rfl, rfl, rfl⟩, hM⟩ := h2
  obtain ⟨t1, t2, t3, t4⟩ := h1
  obtain ⟨⟨z, c, w, se, g, sp, st, u, br⟩, hv⟩ : ∃ o, F_X1_pass down degrees brown core water pricked thin seconds gone splitAt radius skin filling ends thinBy bentFace bentBy kind ht = o := ⟨_, rfl⟩
  have hp : F_X1_pass down degrees brown core water pricked thin seconds gone splitAt radius skin filling ends thinBy bentFace bentBy kind5 ht = (z, c, w, se, g, sp, st, u, br) := by
    rcases hk with ⟨rfl, rfl⟩ | ⟨q1, rfl⟩
    · exact hv
    · rw [← x_passK q1]; exact hv
  obtain ⟨⟨R, hRow⟩⟩ : Nonempty { R // F_X5_second is row 3 ht kind5 = R } := ⟨⟨_, rfl⟩⟩
  obtain ⟨j1, j2, j3⟩ := x_second hM hR e0 e1 e2 e4 e5 e7 e8 hh hp hRow
  have r13 : row 73 = gone := hM.2.2.2.2.2.2.2.1
  have R12 : R 72 = se := j1.2.2.2.2.2.2.1
  have R13 : R 73 = g := j1.2.2.2.2.2.2.2.1
  have R15 : R 75 = st := j1.2.2.2.2.2.2.2.2.2.1
  have R17 : R 77 = z := j2
  have hse : se = nI (s + 1) := by
    have e : se = seconds + 1 := by
      rw [F_X1_pass] at hv
      repeat rw [x_nmE] at hv
      simp only [Prod.mk.injEq] at hv
      exact hv.2.2.2.1.symm
    rw [e, t1, nI_1]
  have hstk : ¬ gone = 0 → g = gone := by
    intro q
    rw [F_X1_pass] at hv
    repeat rw [x_nmE] at hv
    rw [if_neg q] at hv
    simp only [Prod.mk.injEq] at hv
    exact hv.2.2.2.2.1.symm
  have hg3 : g = 0 ∨ g = 1 ∨ g = 2 := j1.1.2.2.2.2.2.1
  have hgle : g ≤ 0 ↔ g = 0 := by rcases hg3 with rfl | rfl | rfl <;> decide
  have n9 : ¬ nI (s + 1) = -9 := x_nI9 (by omega)
  rw [x_jpE hv]
  refine And.intro ?_ ?_
  · refine And.intro hse (And.intro ?_ (And.intro ?_ ?_))
    · rcases t2 with ⟨q1, q2⟩ | ⟨q1, w0, q2, rfl⟩
      · rw [if_pos q2]
        by_cases c0 : g = 0
        · rw [if_pos c0]; exact Or.inl ⟨c0, q2⟩
        · rw [if_neg c0]; exact Or.inr ⟨c0, s + 1, Nat.le_refl _, hse⟩
      · rw [if_neg (x_nI9 (by omega)), hstk q1]
        exact Or.inr ⟨q1, w0, by omega, rfl⟩
    · by_cases c0 : ga = -9
      · rw [if_pos c0]; exact Or.inr ⟨s + 1, Nat.le_refl _, hse⟩
      · rw [if_neg c0]
        split
        · rcases t3 with q | ⟨a, q1, q2⟩
          · exact Or.inl q
          · exact Or.inr ⟨a, by omega, q2⟩
        · exact Or.inr ⟨s + 1, Nat.le_refl _, hse⟩
    · by_cases c0 : hi = -9
      · rw [if_pos c0]
        split
        · exact Or.inl c0
        · exact Or.inr ⟨s + 1, Nat.le_refl _, hse⟩
      · rw [if_neg c0]
        rcases t4 with q | ⟨a, q1, q2⟩
        · exact Or.inl q
        · exact Or.inr ⟨a, by omega, q2⟩
  · refine ⟨_, _, _, _, R, ?_, And.intro ⟨rfl, rfl, rfl, rfl⟩ j1, fun q hq => j3 q (by omega)⟩
    rw [F_X5_tried, hRow]
    repeat rw [x_nmE]
    rw [r13, R12, R13, R15, R17]
    have a1 : (if gone = 0 then if g ≤ 0 then wh else se else wh) = (if wh = -9 then if g = 0 then wh else se else wh) := by
      rcases t2 with ⟨q1, q2⟩ | ⟨q1, w0, q2, rfl⟩
      · rw [if_pos q1, if_pos q2]
        by_cases c0 : g = 0
        · rw [if_pos c0, if_pos (hgle.mpr c0)]
        · rw [if_neg c0, if_neg (fun q => c0 (hgle.mp q))]
      · rw [if_neg q1, if_neg (x_nI9 (by omega))]
    have a2 : (if 0 ≤ hi then hi else if st ≤ 0 then hi else se) = (if hi = -9 then if st ≤ 0 then hi else se else hi) := by
      rcases t4 with rfl | ⟨a, q1, rfl⟩
      · rw [if_neg (by decide), if_pos rfl]
      · rw [if_pos (show (0 : Int32) ≤ nI a from nI_le (a := 0) (by omega) (by omega)), if_neg (x_nI9 (by omega))]
    have a3 : (ga < 0) ↔ ga = -9 := by
      rcases t3 with rfl | ⟨a, q1, rfl⟩
      · decide
      · exact ⟨fun q => absurd q (Int32.not_lt.mpr (nI_le (a := 0) (by omega) (by omega))), fun q => absurd q (x_nI9 (by omega))⟩
    rw [a1, a2]
    by_cases c0 : ga = -9
    · rw [if_pos (a3.mpr c0), if_pos c0, if_pos c0]
    · rw [if_neg (fun q => c0 (a3.mp q)), if_neg c0, if_neg c0]
      by_cases c2 : z ≤ gr
      · rw [if_pos c2, if_pos c2, if_pos c2]
      · rw [if_neg c2, if_neg c2, if_neg c2]
theorem x_jpsS (rp : TRP) (kind ht : Int32) (n : Nat) (J : TJ) : x_jps rp kind ht (n + 1) J = x_jps rp kind ht n (x_jp rp kind ht J) := rfl
theorem x_L69 {is doing : Nat → Int32} {rp : TRP} {kind v : Int32} {k m : Nat} (hrp : RelRp rp is) (hk : doing (3 * k) = kind) (hk2 : kind = 0 ∨ kind = 3) (hm : (doing (3 * k + 2)).toNatClampNeg = m) (hh : Btw 0 v 300) :
    ∀ (n k6 s : Nat) (J : TJ) (tw tm ta th : Int32) (row : Nat → Int32), m - k6 < n → s + (m - k6) < 1000000 → JT s J → JRel J tw tm ta th row →
      JT (s + (m - k6)) (x_jps rp kind v (m - k6) J) ∧ ∃ (tw' tm' ta' th' : Int32) (row' : Nat → Int32), F_X5_plan_L69 is doing k v n k6 tw tm ta th row = (tw', tm', ta', th', row') ∧ JRel (x_jps rp kind v (m - k6) J) tw' tm' ta' th' row' ∧ ∀ q : Nat, q < 60 → row' q = row q := by
  intro n
  induction n with
  | zero => intro k6 s J tw tm ta th row a; exact absurd a (Nat.not_lt_zero _)
  | succ n ih =>
    intro k6 s J tw tm ta th row a b h1 h2
    rw [F_X5_plan_L69, hm]
    by_cases c : m ≤ k6
    · rw [if_pos c, show m - k6 = 0 by omega]
      exact And.intro h1 ⟨tw, tm, ta, th, row, rfl, h2, fun _ _ => rfl⟩
    · rw [if_neg c, hk, x_nmE]
      have hkk : (kind = 0 ∧ (if kind = 3 then (1 : Int32) else 0) = 0) ∨ (¬ kind = 0 ∧ (if kind = 3 then (1 : Int32) else 0) = 1) := by
        rcases hk2 with rfl | rfl <;> decide
      obtain ⟨i1, tw1, tm1, ta1, th1, row1, i2, i3, i4⟩ := x_tried hrp hkk hh (by omega) h1 h2
      obtain ⟨l1, tw2, tm2, ta2, th2, row2, l2, l3, l4⟩ := ih (k6 + 1) (s + 1) _ tw1 tm1 ta1 th1 row1 (by omega) (by omega) i1 i3
      rw [i2, x_nmE]
      rw [show m - k6 = (m - (k6 + 1)) + 1 by omega, x_jpsS, show s + ((m - (k6 + 1)) + 1) = s + 1 + (m - (k6 + 1)) by omega]
      exact And.intro l1 ⟨tw2, tm2, ta2, th2, row2, l2, l3, fun q hq => (l4 q hq).trans (i4 q hq)⟩
/-- the plan's data on both sides -/
def x_heat (doing : Nat → Int32) (hot : Int32) (k : Nat) : Int32 :=
  if (if doing (3 * k) = 0 then doing (3 * k + 1) + hot else doing (3 * k + 1)) ≤ 300 then (if doing (3 * k) = 0 then doing (3 * k + 1) + hot else doing (3 * k + 1)) else 300
def RelPl (n : Nat) (kinds firsts secs : Nat → Int32) (hot : Int32) (doings doing : Nat → Int32) : Prop :=
  n ≤ 12 ∧ doings 0 = nI n ∧ ∀ k : Nat, k < n → doing (3 * k) = kinds k ∧ doing (3 * k + 2) = secs k ∧ (secs k).toNatClampNeg ≤ 99 ∧
    (((kinds k = 0 ∨ kinds k = 3) ∧ firsts k = x_heat doing hot k ∧ Btw 0 (firsts k) 300) ∨ (kinds k = 1 ∧ firsts k = doing (3 * k + 1) ∧ Btw 1 (firsts k) 3 ∧ secs k = 0) ∨ (kinds k = 2 ∧ firsts k = doing (3 * k + 1) ∧ Btw 1 (firsts k) 9 ∧ secs k = 0))
theorem x_jdN {kind first : Int32} (J : TJ) (h : kind = 0 ∨ kind = 3) : x_jd kind first J = J := by
  obtain ⟨wh, gr, ga, hi, down, core, water, pricked, thin, seconds, gone, splitAt, steam, degrees, brown⟩ := J
  rcases h with rfl | rfl <;> rfl
theorem x_jdT {kind first : Int32} {J : TJ} {s : Nat} (h : JT s J) : JT s (x_jd kind first J) := by
  obtain ⟨wh, gr, ga, hi, down, core, water, pricked, thin, seconds, gone, splitAt, steam, degrees, brown⟩ := J
  exact h
theorem x_turns5 {row : Nat → Int32} {first tw tm ta th : Int32} {J : TJ} (h1 : Btw 1 first 3) (h2 : JRel J tw tm ta th row) : JRel (x_jd 1 first J) tw tm ta th (F_X5_turns row 3 first) ∧ ∀ q : Nat, q < 60 → F_X5_turns row 3 first q = row q := by
  obtain ⟨wh, gr, ga, hi, down, core, water, pricked, thin, seconds, gone, splitAt, steam, degrees, brown⟩ := J
  obtain ⟨hw, ⟨⟨d, hd, rfl⟩, hok⟩, r0, r1, r2, r3, r4, r5, r6, r7, r8, r9⟩ := h2
  obtain ⟨e1, e2⟩ := x_btwN (hi := 3) (x_bW h1 (by decide) (by decide))
  have e := x_turn3 ⟨d, hd⟩ ⟨first.toNatClampNeg, by omega⟩
  simp only at e
  rw [← e1] at e
  have e3 : F_X5_turns row 3 first = upd row 76 (nI ((d + first.toNatClampNeg) % 4)) := by
    rw [F_X5_turns, x_nmE, r9, e.1, e.2]
  have e4 : F_X1_turnBy (nI d) first = nI ((d + first.toNatClampNeg) % 4) := e.2
  rw [e3]
  refine And.intro (And.intro hw (And.intro (And.intro ⟨(d + first.toNatClampNeg) % 4, Nat.mod_lt _ (by omega), ?_⟩ hok) (And.intro (fun f hf => ?_) ?_))) (fun q hq => x_updN _ _ (by omega))
  · rw [if_pos rfl]; exact e4
  · rw [x_updN _ _ (by omega), x_updN _ _ (by omega)]
    exact r0 f hf
  · rw [if_pos rfl, if_pos rfl, e4]
    refine ⟨?_, ?_, ?_, ?_, ?_, ?_, ?_, ?_, x_updS _ _ _⟩
    all_goals (rw [x_updN _ _ (by omega)]; assumption)
theorem x_prickBy_ok {pricked first : Int32} (h : Btw 0 pricked 99) (h2 : Btw 0 first 9) : Btw 0 (F_X1_prickBy pricked first) 99 := by
  rw [F_X1_prickBy, x_nmE]
  have e := x_bAdd h h2 (by decide) (by decide)
  obtain ⟨p1, p2⟩ := h
  obtain ⟨p3, p4⟩ := h2
  by_cases c : pricked + first < 99
  · rw [if_pos c]
    rw [Int32.lt_iff_toInt_lt, show (99 : Int32).toInt = 99 by decide] at c
    exact ⟨by omega, by omega⟩
  · rw [if_neg c]; exact ⟨by decide, by decide⟩
theorem x_pricked5 {row : Nat → Int32} {first tw tm ta th : Int32} {J : TJ} (h1 : Btw 0 first 9) (h2 : JRel J tw tm ta th row) : JRel (x_jd 2 first J) tw tm ta th (F_X5_pricked row 3 first) ∧ ∀ q : Nat, q < 60 → F_X5_pricked row 3 first q = row q := by
  obtain ⟨wh, gr, ga, hi, down, core, water, pricked, thin, seconds, gone, splitAt, steam, degrees, brown⟩ := J
  obtain ⟨hw, ⟨o1, o2, o3, o4, o5⟩, r0, r1, r2, r3, r4, r5, r6, r7, r8, r9⟩ := h2
  have e3 : F_X5_pricked row 3 first = upd row 70 (F_X1_prickBy pricked first) := by
    rw [F_X5_pricked, F_X1_prickBy, x_nmE, x_nmE, x_nmE, r3, x_minc 99]
  have two : ¬ (2 : Int32) = 1 := by decide
  rw [e3]
  refine And.intro (And.intro hw (And.intro (And.intro ?_ (And.intro o2 (And.intro o3 (And.intro ?_ o5)))) (And.intro (fun f hf => ?_) ?_))) (fun q hq => x_updN _ _ (by omega))
  · rw [if_neg two]; exact o1
  · rw [if_neg two, if_pos rfl]
    exact x_prickBy_ok o4 h1
  · rw [x_updN _ _ (by omega), x_updN _ _ (by omega)]
    exact r0 f hf
  · rw [if_neg two, if_neg two, if_pos rfl]
    refine ⟨?_, ?_, x_updS _ _ _, ?_, ?_, ?_, ?_, ?_, ?_⟩
    all_goals (rw [x_updN _ _ (by omega)]; assumption)
theorem x_plS (rp : TRP) (kinds firsts secs : Nat → Int32) (c k : Nat) (J : TJ) : x_pl rp kinds firsts secs (c + 1) k J = x_pl rp kinds firsts secs c (k + 1) (x_jps rp (kinds k) (firsts k) (secs k).toNatClampNeg (x_jd (kinds k) (firsts k) J)) := rfl
theorem x_totS (secs : Nat → Int32) (c k : Nat) : x_tot secs (c + 1) k = (secs k).toNatClampNeg + x_tot secs c (k + 1) := rfl
theorem x_z0 : (0 : Int32).toNatClampNeg = 0 := by decide
theorem x_plan5 {is doings doing kinds firsts secs : Nat → Int32} {rp : TRP} {hot : Int32} {m : Nat} (hrp : RelRp rp is) (hp : RelPl m kinds firsts secs hot doings doing) :
    ∀ (n k s : Nat) (J : TJ) (tw tm ta th : Int32) (row : Nat → Int32), m - k < n → s + x_tot secs (m - k) k < 1000000 → JT s J → JRel J tw tm ta th row →
      JT (s + x_tot secs (m - k) k) (x_pl rp kinds firsts secs (m - k) k J) ∧ ∃ (tw' tm' ta' th' : Int32) (row' : Nat → Int32), F_X5_plan_L2 is doings doing hot n k tw tm ta th row = (tw', tm', ta', th', row') ∧ JRel (x_pl rp kinds firsts secs (m - k) k J) tw' tm' ta' th' row' ∧ ∀ q : Nat, q < 60 → row' q = row q := by
  obtain ⟨hm, hd, hpl⟩ := hp
  intro n
  induction n with
  | zero => intro k s J tw tm ta th row a; exact absurd a (Nat.not_lt_zero _)
  | succ n ih =>
    intro k s J tw tm ta th row a b h1 h2
    rw [F_X5_plan_L2, hd, nI_clamp (by omega)]
    by_cases c : m ≤ k
    · rw [if_pos c, show m - k = 0 by omega]
      exact And.intro h1 ⟨tw, tm, ta, th, row, rfl, h2, fun _ _ => rfl⟩
    · rw [if_neg c]
      obtain ⟨p1, p2, p3, p4⟩ := hpl k (by omega)
      rw [show m - k = (m - (k + 1)) + 1 by omega] at b ⊢
      rw [x_totS] at b ⊢
      rw [x_plS]
      repeat rw [x_nmE]
      rw [show (if (if doing (3 * k) = 0 then doing (3 * k + 1) + hot else doing (3 * k + 1)) ≤ 300 then (if doing (3 * k) = 0 then doing (3 * k + 1) + hot else doing (3 * k + 1)) else 300) = x_heat doing hot k from rfl]
      rcases p4 with ⟨q1, q2, q3⟩ | ⟨q1, q2, q3, q4⟩ | ⟨q1, q2, q3, q4⟩
      · rw [x_jdN _ q1]
        obtain ⟨i1, tw1, tm1, ta1, th1, row1, i2, i3, i4⟩ := x_L69 (k := k) (m := (secs k).toNatClampNeg) hrp p1 q1 (by rw [p2]) q3 ((secs k).toNatClampNeg + 1) 0 s J tw tm ta th row (by omega) (by omega) h1 h2
        rw [Nat.sub_zero] at i1 i3
        obtain ⟨l1, tw2, tm2, ta2, th2, row2, l2, l3, l4⟩ := ih (k + 1) (s + (secs k).toNatClampNeg) _ tw1 tm1 ta1 th1 row1 (by omega) (by omega) i1 i3
        rw [p2, ← q2, i2]
        dsimp only
        have n1 : ¬ doing (3 * k) = 1 := by rw [p1]; rcases q1 with q | q <;> rw [q] <;> decide
        have n2 : ¬ doing (3 * k) = 2 := by rw [p1]; rcases q1 with q | q <;> rw [q] <;> decide
        rw [if_neg n1, if_neg n2, l2]
        rw [show s + ((secs k).toNatClampNeg + x_tot secs (m - (k + 1)) (k + 1)) = s + (secs k).toNatClampNeg + x_tot secs (m - (k + 1)) (k + 1) by omega]
        exact And.intro l1 ⟨tw2, tm2, ta2, th2, row2, rfl, l3, fun q hq => (l4 q hq).trans (i4 q hq)⟩
      · rw [q4, x_z0, Nat.zero_add] at b ⊢
        rw [p2, q4, x_z0, p1, q1]
        have e69 : ∀ v : Int32, F_X5_plan_L69 is doing k v (0 + 1) 0 tw tm ta th row = (tw, tm, ta, th, row) := fun v => by
          rw [F_X5_plan_L69, p2, q4, x_z0, if_pos (Nat.le_refl _)]
        rw [e69]
        dsimp only
        rw [if_pos rfl, if_neg (show ¬ (1 : Int32) = 2 by decide), ← q2]
        obtain ⟨i3, i4⟩ := x_turns5 q3 h2
        obtain ⟨l1, tw2, tm2, ta2, th2, row2, l2, l3, l4⟩ := ih (k + 1) s _ tw tm ta th _ (by omega) (by omega) (x_jdT h1) i3
        rw [l2]
        exact And.intro l1 ⟨tw2, tm2, ta2, th2, row2, rfl, l3, fun q hq => (l4 q hq).trans (i4 q hq)⟩
      · rw [q4, x_z0, Nat.zero_add] at b ⊢
        rw [p2, q4, x_z0, p1, q1]
        have e69 : ∀ v : Int32, F_X5_plan_L69 is doing k v (0 + 1) 0 tw tm ta th row = (tw, tm, ta, th, row) := fun v => by
          rw [F_X5_plan_L69, p2, q4, x_z0, if_pos (Nat.le_refl _)]
        rw [e69]
        dsimp only
        rw [if_neg (show ¬ (2 : Int32) = 1 by decide), if_pos rfl, ← q2]
        obtain ⟨i3, i4⟩ := x_pricked5 (x_bW q3 (by decide) (by decide)) h2
        obtain ⟨l1, tw2, tm2, ta2, th2, row2, l2, l3, l4⟩ := ih (k + 1) s _ tw tm ta th _ (by omega) (by omega) (x_jdT h1) i3
        rw [l2]
        exact And.intro l1 ⟨tw2, tm2, ta2, th2, row2, rfl, l3, fun q hq => (l4 q hq).trans (i4 q hq)⟩
