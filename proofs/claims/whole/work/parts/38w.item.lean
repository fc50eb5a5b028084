/-! the steps of the law: every kind of item -/
abbrev TW : Type := Int32 × Nat × Nat × Int32 × Int32 × Int32 × (Nat → Int32) × (Nat → Int32) × (Nat → Int32)
def x_ri (et : Nat → Int32) (len : Nat) (nums : Nat → Int32) (T : TTok) (st bt : Int32) (rc : TRec) : TU := match rc with
  | (r0, r1, r2, r3, r4, r5, r6, r7, r8, m, kinds, firsts, secs) => F_X2_readItem et len nums T.1 T.2.1 T.2.2.1 T.2.2.2 st bt r0 r1 r2 r3 r4 r5 r6 r7 r8 m kinds firsts secs
theorem x_riN (et : Nat → Int32) (len : Nat) (nums : Nat → Int32) (T : TTok) (st bt : Int32) (rc : TRec) (h : ¬ T.1 = 3) : x_ri et len nums T st bt rc = x_fail st bt rc T nums := by
  obtain ⟨r0, r1, r2, r3, r4, r5, r6, r7, r8, m, kinds, firsts, secs⟩ := rc
  simp only [x_ri, x_fail]
  rw [F_X2_readItem, if_neg h]
theorem x_riV (et : Nat → Int32) (len : Nat) (nums : Nat → Int32) (T : TTok) (st bt : Int32) (rc : TRec) {v : Nat} (hv : v < 6) (h : T.1 = 3) (h2 : T.2.2.2 = nI v) : x_ri et len nums T st bt rc = if F_X2_mayStand st bt (nI v) rc.2.2.2.2.2.2.2.2.2.1 = 0 then x_fail st bt rc T nums else x_i59 et len st bt rc v (7 + 1) 0 T nums := by
  obtain ⟨r0, r1, r2, r3, r4, r5, r6, r7, r8, m, kinds, firsts, secs⟩ := rc
  simp only [x_ri, x_fail, x_i59]
  have h0 : F_X4_outside (nI v) 0 5 = 0 := by
    rw [x_outside_iff]
    exact ⟨nI_le (a := 0) (by omega) (by omega), nI_le (b := 5) (by omega) (by omega)⟩
  rw [F_X2_readItem, if_pos h, h2, h0, x_nmE, if_pos rfl, x_nmE, nI_clamp (by omega), x_nmE]
def x_fin (len : Nat) (ut : Nat → Int32) (u15 : TW) : TW :=
  x_nm (α := Int32 × Nat × Nat) (if u15.1 = 0 then (0, u15.2.1, u15.2.2.1) else x_nm (F_X5_ends len ut u15.2.1) fun u_26 => if u_26.1 = 0 then (0, u_26.2.1, u_26.2.2) else (1, u_26.2.1, u_26.2.2)) fun u_19 => (u_19.1, u_19.2.1, u_19.2.2, u15.2.2.2.1, u15.2.2.2.2.1, u15.2.2.2.2.2.1, u15.2.2.2.2.2.2.1, u15.2.2.2.2.2.2.2.1, u15.2.2.2.2.2.2.2.2)
theorem x_fin0 (len : Nat) (ut : Nat → Int32) (a b : Nat) (t hs hb : Int32) (is doings doing : Nat → Int32) : x_fin len ut (0, a, b, t, hs, hb, is, doings, doing) = (0, a, b, t, hs, hb, is, doings, doing) := by
  rw [x_fin, if_pos rfl, x_nmE]
theorem x_btwO {x : Int32} {lo hi : Nat} (hl : lo < 2 ^ 31) (hh : hi < 2 ^ 31) (h : F_X4_outside x (nI lo) (nI hi) = 0) : Btw (lo : Int) x (hi : Int) := by
  obtain ⟨h1, h2⟩ := (x_outside_iff _ _ _).mp h
  rw [Int32.le_iff_toInt_le, nI_toInt hl] at h1
  rw [Int32.le_iff_toInt_le, nI_toInt hh] at h2
  exact ⟨h1, h2⟩
theorem x_frSame {is doings doing is' : Nat → Int32} (hb : Bk doing) (h : ∀ q : Nat, q < 9 → is' q = is q) : FR is doings doing is' doings doing := And.intro h (And.intro rfl (And.intro (fun _ _ => rfl) hb))
/-- the two told words: a skin, a bend -/
theorem x_itemSkin {c : Nat → Nat} {len : Nat} {et ut : Nat → Int32} (hc : Chs c len et ut) {st bt told : Int32} {rc : TRec} {A : Nat} {T : TTok} {nums is doings doing : Nat → Int32} (h3 : T.1 = 3) (hv : T.2.2.2 = nI 0) (hpl : T.2.1 = A) (hA : A < T.2.2.1) (hN : T.2.2.1 ≤ len) (hst : st = 0 ∨ st = 1) (hrd : RelD rc is doings doing) (hbk : Bk doing) :
    ItemIs len A is doings doing (x_ri et len nums T st bt rc) (x_fin len ut (x_nm (F_X5_isSkin len ut T.2.2.1 A told is st) fun u_59 => if u_59.1 = 0 then (0, u_59.2.1, u_59.2.2.1, u_59.2.2.2.1, u_59.2.2.2.2.1, bt, u_59.2.2.2.2.2, doings, doing) else (1, u_59.2.1, u_59.2.2.1, u_59.2.2.2.1, u_59.2.2.2.2.1, bt, u_59.2.2.2.2.2, doings, doing))) := by
  rw [x_riV et len nums T st bt rc (v := 0) (by decide) h3 hv, F_X2_mayStand, if_pos (show nI 0 = 0 from rfl), x_nmE]
  rcases hst with rfl | rfl
  · rw [if_pos rfl, if_neg (show ¬ (1 : Int32) = 0 by decide)]
    obtain ⟨ok, at', bg', told', is', l1, l2, l3⟩ := x_skinL hc 0 bt rc (7 + 1) 0 T nums is A told (by decide) (by decide) hN (fun i hi => absurd hi (Nat.not_lt_zero _))
    have e : F_X5_isSkin len ut T.2.2.1 A told is 0 = (ok, at', bg', told', 1, is') := by
      rw [F_X5_isSkin, if_pos rfl, x_nmE, l1, x_nmE]
    rw [e, x_nmE]
    dsimp only
    rcases l3 with ⟨q1, q2, T', nums', q3, q4⟩ | ⟨q1, q2, q3, T', nums', n', q4, q5, q6⟩
    · subst q1
      rw [if_pos rfl, x_fin0, q4]
      exact And.intro (x_frSame hbk (fun q hq => l2 q (Or.inl hq))) (Or.inl ⟨rfl, rfl, q3, q2, x_relSec hrd⟩)
    · subst q1
      rw [if_neg (show ¬ (1 : Int32) = 0 by decide), q5, ← q4]
      refine x_itemEnd (v := 0) (n := n') hc (by omega) (by omega) hrd (x_frSame hbk (fun q hq => l2 q (Or.inl hq))) (fun T2 => ?_)
      obtain ⟨r0, r1, r2, r3, r4, r5, r6, r7, r8, m, kinds, firsts, secs⟩ := rc
      obtain ⟨⟨⟨-, -, -, -, -, -, -, o7, o8⟩, o9⟩, ⟨-, -, -, -, -, -, -, i7, i8⟩, i9, i10⟩ := hrd
      have b0 := x_btwO (lo := 1) (hi := 9) (by decide) (by decide) (q6 0 (by decide)).2
      have b1 := x_btwO (lo := 1) (hi := 999) (by decide) (by decide) (q6 1 (by decide)).2
      have b2 := x_btwO (lo := 0) (hi := 99) (by decide) (by decide) (q6 2 (by decide)).2
      have b3 := x_btwO (lo := 0) (hi := 999) (by decide) (by decide) (q6 3 (by decide)).2
      have b4 := x_btwO (lo := 1) (hi := 999) (by decide) (by decide) (q6 4 (by decide)).2
      have b5 := x_btwO (lo := 0) (hi := 999) (by decide) (by decide) (q6 5 (by decide)).2
      have b6 := x_btwO (lo := 0) (hi := 10) (by decide) (by decide) (q6 6 (by decide)).2
      have et : F_X2_tell nums' 0 bt (nI 0) (nI (x_many 0)) r0 r1 r2 r3 r4 r5 r6 r7 r8 m kinds firsts secs = (1, bt, nums' 0, nums' 1, nums' 2, nums' 3, nums' 4, nums' 5, nums' 6, r7, r8, m, kinds, firsts, secs) := by
        rw [F_X2_tell, if_pos (show nI 0 = 0 from rfl), x_nmE]
      simp only [x_telling, et]
      refine ⟨trivial, trivial, trivial, trivial, And.intro (And.intro ⟨b0, b1, b2, b3, b4, b5, b6, o7, o8⟩ o9) (And.intro ⟨(q6 0 (by decide)).1, (q6 1 (by decide)).1, (q6 2 (by decide)).1, (q6 3 (by decide)).1, (q6 4 (by decide)).1, (q6 5 (by decide)).1, (q6 6 (by decide)).1, ?_, ?_⟩ (And.intro i9 i10))⟩
      · rw [l2 16 (Or.inr (by decide))]; exact i7
      · rw [l2 17 (Or.inr (by decide))]; exact i8
  · have e : F_X5_isSkin len ut T.2.2.1 A told is 1 = (0, T.2.2.1, A, told, 1, is) := by
      rw [F_X5_isSkin, if_neg (show ¬ (1 : Int32) = 0 by decide), x_nmE, F_X5_isSkin_L20, if_neg (by decide), if_pos rfl, x_nmE]
    rw [if_neg (show ¬ (1 : Int32) = 0 by decide), if_pos rfl, e, x_nmE]
    dsimp only
    rw [if_pos rfl, x_fin0]
    exact And.intro (x_frSame hbk (fun _ _ => rfl)) (Or.inl ⟨rfl, rfl, hpl, by dsimp only; omega, x_relSec hrd⟩)
theorem x_itemBend {c : Nat → Nat} {len : Nat} {et ut : Nat → Int32} (hc : Chs c len et ut) {st bt told : Int32} {rc : TRec} {A : Nat} {T : TTok} {nums is doings doing : Nat → Int32} (h3 : T.1 = 3) (hv : T.2.2.2 = nI 1) (hpl : T.2.1 = A) (hA : A < T.2.2.1) (hN : T.2.2.1 ≤ len) (hbt : bt = 0 ∨ bt = 1) (hrd : RelD rc is doings doing) (hbk : Bk doing) :
    ItemIs len A is doings doing (x_ri et len nums T st bt rc) (x_fin len ut (x_nm (F_X5_isBend len ut T.2.2.1 A told is bt) fun u_49 => if u_49.1 = 0 then (0, u_49.2.1, u_49.2.2.1, u_49.2.2.2.1, st, u_49.2.2.2.2.1, u_49.2.2.2.2.2, doings, doing) else (1, u_49.2.1, u_49.2.2.1, u_49.2.2.2.1, st, u_49.2.2.2.2.1, u_49.2.2.2.2.2, doings, doing))) := by
  rw [x_riV et len nums T st bt rc (v := 1) (by decide) h3 hv, F_X2_mayStand, if_neg (show ¬ nI 1 = 0 by decide), if_pos (show nI 1 = 1 from rfl), x_nmE]
  rcases hbt with rfl | rfl
  · rw [if_pos rfl, if_neg (show ¬ (1 : Int32) = 0 by decide)]
    obtain ⟨ok, at', pl, told', n1, n2⟩ := x_nstep hc st 0 rc (v := 1) 7 0 T nums (by decide) (by decide) hN (lo := 0) (hi := 3) (by decide) (by decide) (by decide) (by decide)
    have n1 : F_X5_number len ut T.2.2.1 0 3 = (ok, at', pl, told') := n1
    rcases n2 with ⟨q1, q2, q3, q4, T1, q5, q6⟩ | ⟨q1, q2, T1, q3, q4⟩
    · subst q1
      obtain ⟨ok2, at2, pl2, told2, n3, n4⟩ := x_nstep hc st 0 rc (v := 1) 6 1 T1 (upd nums 0 told') (by decide) (by decide) (by omega) (lo := 0) (hi := 99) (by decide) (by decide) (by decide) (by decide)
      have n3 : F_X5_number len ut at' 0 99 = (ok2, at2, pl2, told2) := by rw [← q5]; exact n3
      have e : F_X5_isBend len ut T.2.2.1 A told is 0 = (ok2, at2, pl2, told2, 1, upd (upd is 16 told') 17 told2) := by
        rw [F_X5_isBend, if_pos rfl, n1, x_nmE, if_neg (show ¬ (1 : Int32) = 0 by decide), x_nmE, n3, x_nmE, x_nmE]
      rw [e, x_nmE]
      dsimp only
      rcases n4 with ⟨p1, p2, p3, p4, T2, p5, p6⟩ | ⟨p1, p2, T2, p3, p4⟩
      · subst p1
        have q6' : x_i59 et len st 0 rc 1 (7 + 1) 0 T nums = x_i59 et len st 0 rc 1 (5 + 1) (x_many 1) T2 (upd (upd nums 0 told') 1 told2) := q6.trans p6
        rw [if_neg (show ¬ (1 : Int32) = 0 by decide), ← p5, q6']
        refine x_itemEnd (v := 1) (n := 5) hc (by omega) (by omega) hrd (x_frSame hbk (fun q hq => by rw [x_updN _ _ (by omega), x_updN _ _ (by omega)])) (fun T3 => ?_)
        obtain ⟨r0, r1, r2, r3, r4, r5, r6, r7, r8, m, kinds, firsts, secs⟩ := rc
        obtain ⟨⟨⟨o0, o1, o2, o3, o4, o5, o6, -, -⟩, o9⟩, ⟨i0, i1, i2, i3, i4, i5, i6, -, -⟩, i9, i10⟩ := hrd
        have b0 := x_btwO (lo := 0) (hi := 3) (by decide) (by decide) q2
        have b1 := x_btwO (lo := 0) (hi := 99) (by decide) (by decide) p2
        have et : F_X2_tell (upd (upd nums 0 told') 1 told2) st 0 (nI 1) (nI (x_many 1)) r0 r1 r2 r3 r4 r5 r6 r7 r8 m kinds firsts secs = (st, 1, r0, r1, r2, r3, r4, r5, r6, told', told2, m, kinds, firsts, secs) := by
          rw [F_X2_tell, if_neg (show ¬ nI 1 = 0 by decide), if_pos (show nI 1 = 1 from rfl), x_nmE, x_updS, x_updN _ _ (by omega), x_updS]
        simp only [x_telling, et]
        refine ⟨trivial, trivial, trivial, trivial, And.intro (And.intro ⟨o0, o1, o2, o3, o4, o5, o6, x_bW b0 (by decide) (by decide), b1⟩ o9) (And.intro ⟨?_, ?_, ?_, ?_, ?_, ?_, ?_, ?_, x_updS _ _ _⟩ (And.intro i9 i10))⟩
        all_goals first
          | (rw [x_updN _ _ (by omega), x_updN _ _ (by omega)]; assumption)
          | (rw [x_updN _ _ (by omega), x_updS])
      · subst p1
        have q6' : x_i59 et len st 0 rc 1 (7 + 1) 0 T nums = x_fail st 0 rc T2 (upd nums 0 told') := q6.trans p4
        rw [if_pos rfl, q6', x_fin0]
        exact And.intro (x_frSame hbk (fun q hq => by dsimp only; rw [x_updN _ _ (by omega), x_updN _ _ (by omega)])) (Or.inl ⟨rfl, rfl, p3, p2, x_relSec hrd⟩)
    · subst q1
      have e : F_X5_isBend len ut T.2.2.1 A told is 0 = (0, at', pl, told', 0, is) := by
        rw [F_X5_isBend, if_pos rfl, n1, x_nmE, if_pos rfl]
      rw [e, x_nmE]
      dsimp only
      rw [if_pos rfl, x_fin0, q4]
      exact And.intro (x_frSame hbk (fun _ _ => rfl)) (Or.inl ⟨rfl, rfl, q3, q2, x_relSec hrd⟩)
  · have e : F_X5_isBend len ut T.2.2.1 A told is 1 = (0, T.2.2.1, A, told, 1, is) := by
      rw [F_X5_isBend, if_neg (show ¬ (1 : Int32) = 0 by decide)]
    rw [if_neg (show ¬ (1 : Int32) = 0 by decide), if_pos rfl, e, x_nmE]
    dsimp only
    rw [if_pos rfl, x_fin0]
    exact And.intro (x_frSame hbk (fun _ _ => rfl)) (Or.inl ⟨rfl, rfl, hpl, by dsimp only; omega, x_relSec hrd⟩)
/-- the doings -/
theorem x_isFull {n : Nat} (hn : n ≤ 12) (st bt : Int32) {v : Nat} (h2 : 2 ≤ v) (h6 : v < 6) : F_X2_mayStand st bt (nI v) n = if n = 12 then 0 else 1 := by
  have a0 : ¬ nI v = 0 := fun q => by have := (nI_eq (b := 0) (by omega) (by omega)).mp q; omega
  have a1 : ¬ nI v = 1 := fun q => by have := (nI_eq (b := 1) (by omega) (by omega)).mp q; omega
  rw [F_X2_mayStand, if_neg a0, if_neg a1, F_X3_isFull, x_nmE, x_nmE, x_nmE]
  by_cases c : n = 12
  · rw [if_pos c, if_neg (show ¬ n < 12 by omega), if_neg (show ¬ (1 : Int32) = 0 by decide)]
  · rw [if_neg c, if_pos (show n < 12 by omega), if_pos rfl]
theorem x_tellD {nums : Nat → Int32} {st bt r0 r1 r2 r3 r4 r5 r6 r7 r8 kind second : Int32} {v n : Nat} {kinds firsts secs : Nat → Int32} (h2 : 2 ≤ v) (h6 : v < 6) (hn : n < 12) (hk : nI v - 2 = kind) (hs : (if nI (x_many v) ≤ 1 then 0 else nums 1) = second) :
    F_X2_tell nums st bt (nI v) (nI (x_many v)) r0 r1 r2 r3 r4 r5 r6 r7 r8 n kinds firsts secs = (st, bt, r0, r1, r2, r3, r4, r5, r6, r7, r8, n + 1, upd kinds n kind, upd firsts n (nums 0), upd secs n second) := by
  have a0 : ¬ nI v = 0 := fun q => by have := (nI_eq (b := 0) (by omega) (by omega)).mp q; omega
  have a1 : ¬ nI v = 1 := fun q => by have := (nI_eq (b := 1) (by omega) (by omega)).mp q; omega
  have a2 : ¬ nI n < 0 := Int32.not_lt.mpr (nI_le (a := 0) (by omega) (by omega))
  have hadd : F_X3_add n kinds firsts secs kind (nums 0) second = (n + 1, upd kinds n kind, upd firsts n (nums 0), upd secs n second) := by
    rw [F_X3_add, if_neg a2, if_neg (by omega), x_nmE, x_nmE, x_nmE, x_nmE]
  rw [F_X2_tell, if_neg a0, if_neg a1, hs, hk]
  rw [x_nmE, x_nmE, hadd, x_nmE]
theorem x_item1 {c : Nat → Nat} {len : Nat} {et ut : Nat → Int32} (hc : Chs c len et ut) {st bt told : Int32} {rc : TRec} {A v hi : Nat} {T : TTok} {nums is doings doing : Nat → Int32} (h2 : v = 3 ∧ hi = 3 ∨ v = 4 ∧ hi = 9) (h3 : T.1 = 3) (hv : T.2.2.2 = nI v) (hpl : T.2.1 = A) (hA : A < T.2.2.1) (hN : T.2.2.1 ≤ len) (hrd : RelD rc is doings doing) (hbk : Bk doing) :
    ItemIs len A is doings doing (x_ri et len nums T st bt rc) (x_fin len ut (x_nm (F_X5_isDoing len ut T.2.2.1 A told doings doing (nI (v - 2))) fun u_39 => if u_39.1 = 0 then (0, u_39.2.1, u_39.2.2.1, u_39.2.2.2.1, st, bt, is, u_39.2.2.2.2.1, u_39.2.2.2.2.2) else (1, u_39.2.1, u_39.2.2.1, u_39.2.2.2.1, st, bt, is, u_39.2.2.2.2.1, u_39.2.2.2.2.2))) := by
  obtain ⟨r0, r1, r2, r3, r4, r5, r6, r7, r8, n, kinds, firsts, secs⟩ := rc
  have hn12 : n ≤ 12 := hrd.1.2.1
  have hd1 : doings 1 = nI n := hrd.2.2.1
  have hcl : (doings 1).toNatClampNeg = n := by rw [hd1, nI_clamp (by omega)]
  have hv2 : 2 ≤ v ∧ v < 6 := by omega
  rw [x_riV et len nums T st bt _ (v := v) (by omega) h3 hv]
  dsimp only
  rw [x_isFull hn12 st bt hv2.1 hv2.2]
  by_cases c12 : n = 12
  · have e : F_X5_isDoing len ut T.2.2.1 A told doings doing (nI (v - 2)) = (0, T.2.2.1, A, told, doings, doing) := by
      rw [F_X5_isDoing, hcl, if_pos c12]
    rw [if_pos c12, if_pos rfl, e, x_nmE]
    dsimp only
    rw [if_pos rfl, x_fin0]
    exact And.intro (x_frSame hbk (fun _ _ => rfl)) (Or.inl ⟨rfl, rfl, hpl, by dsimp only; omega, x_relSec hrd⟩)
  · rw [if_neg c12, if_neg (show ¬ (1 : Int32) = 0 by decide)]
    have hm : 0 < x_many v ∧ x_many v = 1 ∧ x_low (x_fromN v + 0) = nI 1 ∧ x_high (x_fromN v + 0) = nI hi ∧ nI v - 2 = nI (v - 2) := by
      rcases h2 with ⟨rfl, rfl⟩ | ⟨rfl, rfl⟩ <;> decide
    obtain ⟨ok, at', pl, told', n1, n2⟩ := x_nstep hc st bt (r0, r1, r2, r3, r4, r5, r6, r7, r8, n, kinds, firsts, secs) (v := v) 7 0 T nums (by omega) hm.1 hN (lo := 1) (hi := hi) (by decide) (by omega) hm.2.2.1 hm.2.2.2.1
    have hlo : (if nI (v - 2) = 3 then (20 : Int32) else if nI (v - 2) = 0 then 0 else 1) = nI 1 := by
      rcases h2 with ⟨rfl, rfl⟩ | ⟨rfl, rfl⟩ <;> decide
    have hhi : (if nI (v - 2) = 0 then (300 : Int32) else if nI (v - 2) = 1 then 3 else if nI (v - 2) = 2 then 9 else 100) = nI hi := by
      rcases h2 with ⟨rfl, rfl⟩ | ⟨rfl, rfl⟩ <;> decide
    have k0 : ¬ nI (v - 2) = 0 := by rcases h2 with ⟨rfl, rfl⟩ | ⟨rfl, rfl⟩ <;> decide
    have k3 : ¬ nI (v - 2) = 3 := by rcases h2 with ⟨rfl, rfl⟩ | ⟨rfl, rfl⟩ <;> decide
    rcases n2 with ⟨q1, q2, q3, q4, T1, q5, q6⟩ | ⟨q1, q2, T1, q3, q4⟩
    · subst q1
      have e : F_X5_isDoing len ut T.2.2.1 A told doings doing (nI (v - 2)) = (1, at', pl, told', upd doings 1 (nI (n + 1)), upd (upd (upd doing (36 + 3 * n) (nI (v - 2))) (36 + 3 * n + 1) told') (36 + 3 * n + 2) 0) := by
        rw [F_X5_isDoing, hcl, if_neg c12, hlo, hhi, x_nmE, x_nmE, n1, x_nmE, if_neg (show ¬ (1 : Int32) = 0 by decide), x_nmE, x_nmE, x_nmE, if_neg k0, if_neg k3, x_nmE]
      rw [e, x_nmE]
      dsimp only
      rw [if_neg (show ¬ (1 : Int32) = 0 by decide), ← q5]
      have q6' : x_i59 et len st bt (r0, r1, r2, r3, r4, r5, r6, r7, r8, n, kinds, firsts, secs) v (7 + 1) 0 T nums = x_i59 et len st bt (r0, r1, r2, r3, r4, r5, r6, r7, r8, n, kinds, firsts, secs) v (6 + 1) (x_many v) T1 (upd nums 0 told') := by
        rw [hm.2.1]; exact q6
      rw [q6']
      have hs0 : (if nI (x_many v) ≤ 1 then 0 else (upd nums 0 told') 1) = 0 := by rw [hm.2.1, if_pos (by decide)]
      have et : F_X2_tell (upd nums 0 told') st bt (nI v) (nI (x_many v)) r0 r1 r2 r3 r4 r5 r6 r7 r8 n kinds firsts secs = _ := x_tellD hv2.1 hv2.2 (by omega) hm.2.2.2.2 hs0
      have hrecd : RecDoing (nI (v - 2)) told' 0 := by
        have b := x_btwO (by decide) (by omega) q2
        rcases h2 with ⟨rfl, rfl⟩ | ⟨rfl, rfl⟩
        · exact Or.inr (Or.inl ⟨rfl, b, rfl⟩)
        · exact Or.inr (Or.inr (Or.inl ⟨rfl, b, rfl⟩))
      obtain ⟨a1, a2⟩ := x_relAdd (doing' := upd (upd (upd doing (36 + 3 * n) (nI (v - 2))) (36 + 3 * n + 1) told') (36 + 3 * n + 2) 0) hrd (by omega) hrecd ⟨by decide, by decide⟩ hbk (by rw [x_updN _ _ (by omega), x_updN _ _ (by omega), x_updS]) (by rw [x_updN _ _ (by omega), x_updS]) (by rw [x_updS]) (fun q hq => by rw [x_updN _ _ (by omega), x_updN _ _ (by omega), x_updN _ _ (by omega)])
      refine x_itemEnd (v := v) (n := 6) hc (by omega) (by omega) hrd a2 (fun T3 => ?_)
      simp only [x_telling, et, x_updS]
      exact ⟨trivial, trivial, trivial, trivial, a1⟩
    · subst q1
      have e : F_X5_isDoing len ut T.2.2.1 A told doings doing (nI (v - 2)) = (0, at', pl, told', doings, doing) := by
        rw [F_X5_isDoing, hcl, if_neg c12, hlo, hhi, x_nmE, x_nmE, n1, x_nmE, if_pos rfl]
      rw [e, x_nmE]
      dsimp only
      rw [if_pos rfl, x_fin0, q4]
      exact And.intro (x_frSame hbk (fun _ _ => rfl)) (Or.inl ⟨rfl, rfl, q3, q2, x_relSec hrd⟩)
theorem x_item2 {c : Nat → Nat} {len : Nat} {et ut : Nat → Int32} (hc : Chs c len et ut) {st bt told : Int32} {rc : TRec} {A v lo hi : Nat} {T : TTok} {nums is doings doing : Nat → Int32} (h2 : v = 2 ∧ lo = 0 ∧ hi = 300 ∨ v = 5 ∧ lo = 20 ∧ hi = 100) (h3 : T.1 = 3) (hv : T.2.2.2 = nI v) (hpl : T.2.1 = A) (hA : A < T.2.2.1) (hN : T.2.2.1 ≤ len) (hrd : RelD rc is doings doing) (hbk : Bk doing) :
    ItemIs len A is doings doing (x_ri et len nums T st bt rc) (x_fin len ut (x_nm (F_X5_isDoing len ut T.2.2.1 A told doings doing (nI (v - 2))) fun u_39 => if u_39.1 = 0 then (0, u_39.2.1, u_39.2.2.1, u_39.2.2.2.1, st, bt, is, u_39.2.2.2.2.1, u_39.2.2.2.2.2) else (1, u_39.2.1, u_39.2.2.1, u_39.2.2.2.1, st, bt, is, u_39.2.2.2.2.1, u_39.2.2.2.2.2))) := by
  obtain ⟨r0, r1, r2, r3, r4, r5, r6, r7, r8, n, kinds, firsts, secs⟩ := rc
  have hn12 : n ≤ 12 := hrd.1.2.1
  have hd1 : doings 1 = nI n := hrd.2.2.1
  have hcl : (doings 1).toNatClampNeg = n := by rw [hd1, nI_clamp (by omega)]
  have hv2 : 2 ≤ v ∧ v < 6 := by omega
  rw [x_riV et len nums T st bt _ (v := v) (by omega) h3 hv]
  dsimp only
  rw [x_isFull hn12 st bt hv2.1 hv2.2]
  by_cases c12 : n = 12
  · have e : F_X5_isDoing len ut T.2.2.1 A told doings doing (nI (v - 2)) = (0, T.2.2.1, A, told, doings, doing) := by
      rw [F_X5_isDoing, hcl, if_pos c12]
    rw [if_pos c12, if_pos rfl, e, x_nmE]
    dsimp only
    rw [if_pos rfl, x_fin0]
    exact And.intro (x_frSame hbk (fun _ _ => rfl)) (Or.inl ⟨rfl, rfl, hpl, by dsimp only; omega, x_relSec hrd⟩)
  · rw [if_neg c12, if_neg (show ¬ (1 : Int32) = 0 by decide)]
    have hm : 0 < x_many v ∧ x_many v = 2 ∧ x_low (x_fromN v + 0) = nI lo ∧ x_high (x_fromN v + 0) = nI hi ∧ nI v - 2 = nI (v - 2) ∧ x_low (x_fromN v + 1) = nI 1 ∧ x_high (x_fromN v + 1) = nI 99 := by
      rcases h2 with ⟨rfl, rfl, rfl⟩ | ⟨rfl, rfl, rfl⟩ <;> decide
    have hm1 : 1 < x_many v := by rw [hm.2.1]; decide
    obtain ⟨ok, at', pl, told', n1, n2⟩ := x_nstep hc st bt (r0, r1, r2, r3, r4, r5, r6, r7, r8, n, kinds, firsts, secs) (v := v) 7 0 T nums (by omega) hm.1 hN (lo := lo) (hi := hi) (by omega) (by omega) hm.2.2.1 hm.2.2.2.1
    have hlo : (if nI (v - 2) = 3 then (20 : Int32) else if nI (v - 2) = 0 then 0 else 1) = nI lo := by
      rcases h2 with ⟨rfl, rfl, rfl⟩ | ⟨rfl, rfl, rfl⟩ <;> decide
    have hhi : (if nI (v - 2) = 0 then (300 : Int32) else if nI (v - 2) = 1 then 3 else if nI (v - 2) = 2 then 9 else 100) = nI hi := by
      rcases h2 with ⟨rfl, rfl, rfl⟩ | ⟨rfl, rfl, rfl⟩ <;> decide
    have k03 : nI (v - 2) = 0 ∨ (¬ nI (v - 2) = 0 ∧ nI (v - 2) = 3) := by
      rcases h2 with ⟨rfl, rfl, rfl⟩ | ⟨rfl, rfl, rfl⟩
      · exact Or.inl (by decide)
      · exact Or.inr (by decide)
    rcases n2 with ⟨q1, q2, q3, q4, T1, q5, q6⟩ | ⟨q1, q2, T1, q3, q4⟩
    · subst q1
      obtain ⟨ok2, at2, pl2, told2, n3, n4⟩ := x_nstep hc st bt (r0, r1, r2, r3, r4, r5, r6, r7, r8, n, kinds, firsts, secs) (v := v) 6 1 T1 (upd nums 0 told') (by omega) hm1 (by omega) (lo := 1) (hi := 99) (by decide) (by decide) hm.2.2.2.2.2.1 hm.2.2.2.2.2.2
      have n3 : F_X5_number len ut at' 1 99 = (ok2, at2, pl2, told2) := by rw [← q5]; exact n3
      rcases n4 with ⟨p1, p2, p3, p4, T2, p5, p6⟩ | ⟨p1, p2, T2, p3, p4⟩
      · subst p1
        have e : F_X5_isDoing len ut T.2.2.1 A told doings doing (nI (v - 2)) = (1, at2, pl2, told2, upd doings 1 (nI (n + 1)), upd (upd (upd (upd doing (36 + 3 * n) (nI (v - 2))) (36 + 3 * n + 1) told') (36 + 3 * n + 2) 0) (36 + 3 * n + 2) told2) := by
          rw [F_X5_isDoing, hcl, if_neg c12, hlo, hhi, x_nmE, x_nmE, n1, x_nmE, if_neg (show ¬ (1 : Int32) = 0 by decide), x_nmE, x_nmE, x_nmE]
          dsimp only
          rcases k03 with k0 | ⟨k0, k3⟩
          · rw [if_pos k0, n3, x_nmE, if_neg (show ¬ (1 : Int32) = 0 by decide), x_nmE, x_nmE]
          · rw [if_neg k0, if_pos k3, n3, x_nmE, if_neg (show ¬ (1 : Int32) = 0 by decide), x_nmE, x_nmE]
        rw [e, x_nmE]
        dsimp only
        rw [if_neg (show ¬ (1 : Int32) = 0 by decide), ← p5]
        have q6' : x_i59 et len st bt (r0, r1, r2, r3, r4, r5, r6, r7, r8, n, kinds, firsts, secs) v (7 + 1) 0 T nums = x_i59 et len st bt (r0, r1, r2, r3, r4, r5, r6, r7, r8, n, kinds, firsts, secs) v (5 + 1) (x_many v) T2 (upd (upd nums 0 told') 1 told2) := by
          rw [hm.2.1]; exact q6.trans p6
        rw [q6']
        have b2 := x_btwO (lo := 1) (hi := 99) (by decide) (by decide) p2
        obtain ⟨g1, g2⟩ := x_btwN (hi := 99) (x_bW b2 (by decide) (by decide))
        have hs0 : (if nI (x_many v) ≤ 1 then 0 else (upd (upd nums 0 told') 1 told2) 1) = told2 := by rw [hm.2.1, if_neg (by decide), x_updS]
        have et : F_X2_tell (upd (upd nums 0 told') 1 told2) st bt (nI v) (nI (x_many v)) r0 r1 r2 r3 r4 r5 r6 r7 r8 n kinds firsts secs = _ := x_tellD hv2.1 hv2.2 (by omega) hm.2.2.2.2.1 hs0
        have hf0 : (upd (upd nums 0 told') 1 told2) 0 = told' := by rw [x_updN _ _ (by omega), x_updS]
        have hrecd : RecDoing (nI (v - 2)) told' told2 := by
          have b := x_btwO (by omega) (by omega) q2
          rcases h2 with ⟨rfl, rfl, rfl⟩ | ⟨rfl, rfl, rfl⟩
          · exact Or.inl ⟨rfl, b, b2⟩
          · exact Or.inr (Or.inr (Or.inr ⟨rfl, b, b2⟩))
        obtain ⟨a1, a2⟩ := x_relAdd (doing' := upd (upd (upd (upd doing (36 + 3 * n) (nI (v - 2))) (36 + 3 * n + 1) told') (36 + 3 * n + 2) 0) (36 + 3 * n + 2) told2) hrd (by omega) hrecd ⟨g2, g1⟩ hbk (by rw [x_updN _ _ (by omega), x_updN _ _ (by omega), x_updN _ _ (by omega), x_updS]) (by rw [x_updN _ _ (by omega), x_updN _ _ (by omega), x_updS]) (by rw [x_updS]) (fun q hq => by rw [x_updN _ _ (by omega), x_updN _ _ (by omega), x_updN _ _ (by omega), x_updN _ _ (by omega)])
        refine x_itemEnd (v := v) (n := 5) hc (by omega) (by omega) hrd a2 (fun T3 => ?_)
        simp only [x_telling, et, hf0]
        exact ⟨trivial, trivial, trivial, trivial, a1⟩
      · subst p1
        have e : F_X5_isDoing len ut T.2.2.1 A told doings doing (nI (v - 2)) = (0, at2, pl2, told2, doings, upd (upd (upd doing (36 + 3 * n) (nI (v - 2))) (36 + 3 * n + 1) told') (36 + 3 * n + 2) 0) := by
          rw [F_X5_isDoing, hcl, if_neg c12, hlo, hhi, x_nmE, x_nmE, n1, x_nmE, if_neg (show ¬ (1 : Int32) = 0 by decide), x_nmE, x_nmE, x_nmE]
          dsimp only
          rcases k03 with k0 | ⟨k0, k3⟩
          · rw [if_pos k0, n3, x_nmE, if_pos rfl]
          · rw [if_neg k0, if_pos k3, n3, x_nmE, if_pos rfl]
        rw [e, x_nmE]
        dsimp only
        have q6' : x_i59 et len st bt (r0, r1, r2, r3, r4, r5, r6, r7, r8, n, kinds, firsts, secs) v (7 + 1) 0 T nums = x_fail st bt (r0, r1, r2, r3, r4, r5, r6, r7, r8, n, kinds, firsts, secs) T2 (upd nums 0 told') := q6.trans p4
        rw [if_pos rfl, x_fin0, q6']
        refine And.intro (And.intro (fun _ _ => rfl) (And.intro rfl (And.intro (fun q hq => ?_) (fun k hk => ?_)))) (Or.inl ⟨rfl, rfl, p3, p2, x_relSec hrd⟩)
        · dsimp only
          rw [x_updN _ _ (by omega), x_updN _ _ (by omega), x_updN _ _ (by omega)]
        · dsimp only
          by_cases z : 3 * k + 2 = 36 + 3 * n + 2
          · rw [z, x_updS]; exact ⟨by decide, by decide⟩
          · rw [x_updN _ _ z, x_updN _ _ (by omega), x_updN _ _ (by omega)]
            exact hbk k hk
    · subst q1
      have e : F_X5_isDoing len ut T.2.2.1 A told doings doing (nI (v - 2)) = (0, at', pl, told', doings, doing) := by
        rw [F_X5_isDoing, hcl, if_neg c12, hlo, hhi, x_nmE, x_nmE, n1, x_nmE, if_pos rfl]
      rw [e, x_nmE]
      dsimp only
      rw [if_pos rfl, x_fin0, q4]
      exact And.intro (x_frSame hbk (fun _ _ => rfl)) (Or.inl ⟨rfl, rfl, q3, q2, x_relSec hrd⟩)
/-- an item -/
theorem x_item {c : Nat → Nat} {len : Nat} {et ut : Nat → Int32} (hc : Chs c len et ut) {st bt told : Int32} {rc : TRec} {A : Nat} {T : TTok} {nums is doings doing : Nat → Int32} (hA : A ≤ len) (hT : F_X2_readToken et len A = T) (hpl : T.2.1 = A) (hst : st = 0 ∨ st = 1) (hbt : bt = 0 ∨ bt = 1) (hrd : RelD rc is doings doing) (hbk : Bk doing) :
    ItemIs len A is doings doing (x_ri et len nums T st bt rc) (F_X5_isItem len ut A told is doings doing st bt) := by
  obtain ⟨w, at', w1, w2⟩ := x_wordT hc hA hT
  rw [hpl] at w1
  have e : F_X5_isItem len ut A told is doings doing st bt = x_fin len ut (if w < 0 then (0, at', A, told, st, bt, is, doings, doing) else if w = 4 then x_nm (F_X5_isSkin len ut at' A told is st) fun u_59 => if u_59.1 = 0 then (0, u_59.2.1, u_59.2.2.1, u_59.2.2.2.1, u_59.2.2.2.2.1, bt, u_59.2.2.2.2.2, doings, doing) else (1, u_59.2.1, u_59.2.2.1, u_59.2.2.2.1, u_59.2.2.2.2.1, bt, u_59.2.2.2.2.2, doings, doing) else if w = 5 then x_nm (F_X5_isBend len ut at' A told is bt) fun u_49 => if u_49.1 = 0 then (0, u_49.2.1, u_49.2.2.1, u_49.2.2.2.1, st, u_49.2.2.2.2.1, u_49.2.2.2.2.2, doings, doing) else (1, u_49.2.1, u_49.2.2.1, u_49.2.2.2.1, st, u_49.2.2.2.2.1, u_49.2.2.2.2.2, doings, doing) else x_nm (F_X5_isDoing len ut at' A told doings doing w) fun u_39 => if u_39.1 = 0 then (0, u_39.2.1, u_39.2.2.1, u_39.2.2.2.1, st, bt, is, u_39.2.2.2.2.1, u_39.2.2.2.2.2) else (1, u_39.2.1, u_39.2.2.1, u_39.2.2.2.1, st, bt, is, u_39.2.2.2.2.1, u_39.2.2.2.2.2)) := by
    rw [F_X5_isItem, w1, x_nmE, x_nmE]
    rfl
  rw [e]
  rcases w2 with ⟨v, v1, v2, v3, v4, v5, v6, v7⟩ | ⟨v1, v2⟩
  · subst v4
    have h0 : ¬ nI (if v < 2 then v + 4 else v - 2) < 0 := Int32.not_lt.mpr (nI_le (a := 0) (by omega) (by split <;> omega))
    rw [if_neg h0]
    subst v5
    have hv : v = 0 ∨ v = 1 ∨ v = 2 ∨ v = 3 ∨ v = 4 ∨ v = 5 := by omega
    rcases hv with rfl | rfl | rfl | rfl | rfl | rfl
    · rw [if_pos (show nI (if 0 < 2 then 0 + 4 else 0 - 2) = 4 by decide)]
      exact x_itemSkin hc v2 v3 hpl v6 v7 hst hrd hbk
    · rw [if_neg (show ¬ nI (if 1 < 2 then 1 + 4 else 1 - 2) = 4 by decide), if_pos (show nI (if 1 < 2 then 1 + 4 else 1 - 2) = 5 by decide)]
      exact x_itemBend hc v2 v3 hpl v6 v7 hbt hrd hbk
    · rw [if_neg (show ¬ nI (if 2 < 2 then 2 + 4 else 2 - 2) = 4 by decide), if_neg (show ¬ nI (if 2 < 2 then 2 + 4 else 2 - 2) = 5 by decide), if_neg (show ¬ 2 < 2 by decide)]
      exact x_item2 (v := 2) hc (Or.inl ⟨rfl, rfl, rfl⟩) v2 v3 hpl v6 v7 hrd hbk
    · rw [if_neg (show ¬ nI (if 3 < 2 then 3 + 4 else 3 - 2) = 4 by decide), if_neg (show ¬ nI (if 3 < 2 then 3 + 4 else 3 - 2) = 5 by decide), if_neg (show ¬ 3 < 2 by decide)]
      exact x_item1 (v := 3) hc (Or.inl ⟨rfl, rfl⟩) v2 v3 hpl v6 v7 hrd hbk
    · rw [if_neg (show ¬ nI (if 4 < 2 then 4 + 4 else 4 - 2) = 4 by decide), if_neg (show ¬ nI (if 4 < 2 then 4 + 4 else 4 - 2) = 5 by decide), if_neg (show ¬ 4 < 2 by decide)]
      exact x_item1 (v := 4) hc (Or.inr ⟨rfl, rfl⟩) v2 v3 hpl v6 v7 hrd hbk
    · rw [if_neg (show ¬ nI (if 5 < 2 then 5 + 4 else 5 - 2) = 4 by decide), if_neg (show ¬ nI (if 5 < 2 then 5 + 4 else 5 - 2) = 5 by decide), if_neg (show ¬ 5 < 2 by decide)]
      exact x_item2 (v := 5) hc (Or.inr ⟨rfl, rfl, rfl⟩) v2 v3 hpl v6 v7 hrd hbk
  · rw [x_riN et len nums T st bt rc v2, v1, if_pos (by decide), x_fin0]
    exact And.intro (x_frSame hbk (fun _ _ => rfl)) (Or.inl ⟨rfl, rfl, hpl, hA, x_relSec hrd⟩)
