/-! the steps of the law: an item, both sides -/
abbrev TTok : Type := Int32 × Nat × Nat × Int32
abbrev TU : Type := Int32 × Int32 × Nat × Nat × Int32 × Int32 × Int32 × (Nat → Int32) × TRec
def x_i59 (et : Nat → Int32) (len : Nat) (st bt : Int32) (rc : TRec) (v n k : Nat) (T : TTok) (nums : Nat → Int32) : TU := match rc with
  | (r0, r1, r2, r3, r4, r5, r6, r7, r8, m, kinds, firsts, secs) => F_X2_readItem_L59 et len st bt r0 r1 r2 r3 r4 r5 r6 r7 r8 m kinds firsts secs v n k T.1 T.2.1 T.2.2.1 T.2.2.2 nums
def x_fail (st bt : Int32) (rc : TRec) (T : TTok) (nums : Nat → Int32) : TU := (0, T.1, T.2.1, T.2.2.1, T.2.2.2, st, bt, nums, rc)
def x_many (v : Nat) : Nat := x_fromN (v + 1) - x_fromN v
def x_telling (st bt : Int32) (rc : TRec) (v : Nat) (T : TTok) (nums : Nat → Int32) : TU := match rc with
  | (r0, r1, r2, r3, r4, r5, r6, r7, r8, m, kinds, firsts, secs) =>
    (1, T.1, T.2.1, T.2.2.1, T.2.2.2, (F_X2_tell nums st bt (nI v) (nI (x_many v)) r0 r1 r2 r3 r4 r5 r6 r7 r8 m kinds firsts secs).1, (F_X2_tell nums st bt (nI v) (nI (x_many v)) r0 r1 r2 r3 r4 r5 r6 r7 r8 m kinds firsts secs).2.1, nums, (F_X2_tell nums st bt (nI v) (nI (x_many v)) r0 r1 r2 r3 r4 r5 r6 r7 r8 m kinds firsts secs).2.2)
theorem x_many7 : ∀ v : Fin 6, x_many v.val ≤ 7 := by decide +kernel
/-- what a number of an item may be -/
theorem x_mayBeE (x : Int32) {a : Nat} (h : a < 15) : F_X2_mayBe x a = if F_X4_outside x (x_low a) (x_high a) = 0 then 1 else 0 := by
  rw [F_X2_mayBe, x_nmE, if_neg (nI_pos (show a < 2 ^ 31 by omega)), if_neg (show ¬ 15 ≤ a by omega), if_neg (show ¬ 15 ≤ a by omega), x_nmE]
theorem x_i59S (et : Nat → Int32) (len : Nat) (st bt : Int32) (rc : TRec) {v : Nat} (n k : Nat) (T : TTok) (nums : Nat → Int32) (hv : v < 6) (hk : k < x_many v) {T' : TTok} (hT : F_X2_readToken et len T.2.2.1 = T') :
    x_i59 et len st bt rc v (n + 1) k T nums = if T'.1 = 2 then if F_X4_outside T'.2.2.2 (x_low (x_fromN v + k)) (x_high (x_fromN v + k)) = 0 then x_i59 et len st bt rc v n (k + 1) T' (upd nums k T'.2.2.2) else x_fail st bt rc T' nums else x_fail st bt rc T' nums := by
  obtain ⟨r0, r1, r2, r3, r4, r5, r6, r7, r8, m, kinds, firsts, secs⟩ := rc
  have h7 := x_many7 ⟨v, hv⟩
  dsimp only at h7
  simp only [x_i59, x_fail]
  rw [F_X2_readItem_L59, if_neg (show ¬ x_fromN (v + 1) - x_fromN v ≤ k from by have : k < x_fromN (v + 1) - x_fromN v := hk; omega), if_neg (by omega), hT, x_nmE]
  by_cases c1 : T'.1 = 2
  · have h15 : x_fromN v + k < 15 := by
      have q := x_from_mono v hv
      have hk2 : k < x_fromN (v + 1) - x_fromN v := hk
      omega
    rw [if_pos c1, if_pos c1, x_mayBeE T'.2.2.2 h15]
    by_cases c2 : F_X4_outside T'.2.2.2 (x_low (x_fromN v + k)) (x_high (x_fromN v + k)) = 0
    · rw [if_pos c2, if_pos c2, x_nmE, if_neg (show ¬ (1 : Int32) = 0 by decide), x_nmE]
    · rw [if_neg c2, if_neg c2, x_nmE, if_pos rfl]
  · rw [if_neg c1, if_neg c1]
theorem x_i59E (et : Nat → Int32) (len : Nat) (st bt : Int32) (rc : TRec) {v : Nat} (n : Nat) (T : TTok) (nums : Nat → Int32) {T' : TTok} (hT : F_X2_readToken et len T.2.2.1 = T') :
    x_i59 et len st bt rc v (n + 1) (x_many v) T nums = if T'.1 = 1 then x_telling st bt rc v T' nums else x_fail st bt rc T' nums := by
  obtain ⟨r0, r1, r2, r3, r4, r5, r6, r7, r8, m, kinds, firsts, secs⟩ := rc
  simp only [x_i59, x_fail, x_telling]
  rw [F_X2_readItem_L59, if_pos (show x_fromN (v + 1) - x_fromN v ≤ x_many v from Nat.le_refl _), hT, x_nmE]
  by_cases c1 : T'.1 = 1
  · rw [if_pos c1, if_pos c1, x_nmE]
    rfl
  · rw [if_neg c1, if_neg c1]
/-- a number of an item -/
theorem x_nstep {c : Nat → Nat} {len : Nat} {et ut : Nat → Int32} (hc : Chs c len et ut) (st bt : Int32) (rc : TRec) {v : Nat} (n k : Nat) (T : TTok) (nums : Nat → Int32) (hv : v < 6) (hk : k < x_many v) (hN : T.2.2.1 ≤ len) {lo hi : Nat} (hlo : lo ≤ 999) (hhi : hi ≤ 999) (el : x_low (x_fromN v + k) = nI lo) (eh : x_high (x_fromN v + k) = nI hi) :
    ∃ (ok : Int32) (at' pl : Nat) (told' : Int32), F_X5_number len ut T.2.2.1 (nI lo) (nI hi) = (ok, at', pl, told') ∧
      ((ok = 1 ∧ F_X4_outside told' (nI lo) (nI hi) = 0 ∧ T.2.2.1 < at' ∧ at' ≤ len ∧ ∃ T' : TTok, T'.2.2.1 = at' ∧ x_i59 et len st bt rc v (n + 1) k T nums = x_i59 et len st bt rc v n (k + 1) T' (upd nums k told')) ∨
       (ok = 0 ∧ pl ≤ len ∧ ∃ T' : TTok, T'.2.1 = pl ∧ x_i59 et len st bt rc v (n + 1) k T nums = x_fail st bt rc T' nums)) := by
  obtain ⟨T', hT⟩ : ∃ T', F_X2_readToken et len T.2.2.1 = T' := ⟨_, rfl⟩
  obtain ⟨ok, at', told', h1, h2⟩ := x_number hc hN hlo hhi hT
  have hl := hc.1
  have hpl : T'.2.1 ≤ len := by
    rw [(x_tokA (x_tokn hc (by omega) hT)).1]
    exact (x_skipB hN).2
  refine ⟨ok, at', T'.2.1, told', h1, ?_⟩
  rw [x_i59S et len st bt rc n k T nums hv hk hT, el, eh]
  rcases h2 with ⟨q1, q2, q3, q4, q5, q6, q7⟩ | ⟨q1, q2⟩
  · refine Or.inl ⟨q1, by rw [q4]; exact q3, q6, q7, T', q5.symm, ?_⟩
    rw [if_pos q2, if_pos q3, q4]
  · refine Or.inr ⟨q1, hpl, T', rfl, ?_⟩
    by_cases c1 : T'.1 = 2
    · rw [if_pos c1, if_neg (fun z => q2 ⟨c1, z⟩)]
    · rw [if_neg c1]
theorem x_estep {c : Nat → Nat} {len : Nat} {et ut : Nat → Int32} (hc : Chs c len et ut) (st bt : Int32) (rc : TRec) {v : Nat} (n : Nat) (T : TTok) (nums : Nat → Int32) (hN : T.2.2.1 ≤ len) :
    ∃ (e : Int32) (at' pl : Nat), F_X5_ends len ut T.2.2.1 = (e, at', pl) ∧
      ((e = 1 ∧ T.2.2.1 < at' ∧ at' ≤ len ∧ ∃ T' : TTok, T'.2.2.1 = at' ∧ x_i59 et len st bt rc v (n + 1) (x_many v) T nums = x_telling st bt rc v T' nums) ∨
       (e = 0 ∧ pl ≤ len ∧ ∃ T' : TTok, T'.2.1 = pl ∧ x_i59 et len st bt rc v (n + 1) (x_many v) T nums = x_fail st bt rc T' nums)) := by
  obtain ⟨T', hT⟩ : ∃ T', F_X2_readToken et len T.2.2.1 = T' := ⟨_, rfl⟩
  obtain ⟨e, h1, h2⟩ := x_ends hc hN hT
  have hl := hc.1
  have hpl : T'.2.1 ≤ len := by
    rw [(x_tokA (x_tokn hc (by omega) hT)).1]
    exact (x_skipB hN).2
  refine ⟨e, _, _, h1, ?_⟩
  rw [x_i59E et len st bt rc n T nums hT]
  rcases h2 with ⟨q1, q2, q3, q4, q5⟩ | ⟨q1, q2⟩
  · exact Or.inl ⟨q1, by omega, by omega, T', q3, by rw [if_pos q2]⟩
  · exact Or.inr ⟨q1, hpl, T', rfl, by rw [if_neg q2]⟩
/-! the drafts -/
def Bk (doing : Nat → Int32) : Prop := ∀ k : Nat, k < 24 → (doing (3 * k + 2)).toNatClampNeg ≤ 99 ∧ doing (3 * k + 2) = nI (doing (3 * k + 2)).toNatClampNeg
def RelD (rc : TRec) (is doings doing : Nat → Int32) : Prop := RecOk rc ∧ match rc with
  | (radius, skin, filling, water, ends, thin, chance, bentFace, bentBy, n, kinds, firsts, seconds) =>
    (is 9 = radius ∧ is 10 = skin ∧ is 11 = filling ∧ is 12 = water ∧ is 13 = ends ∧ is 14 = thin ∧ is 15 = chance ∧ is 16 = bentFace ∧ is 17 = bentBy) ∧
    doings 1 = nI n ∧ ∀ k : Nat, k < n → doing (36 + 3 * k) = kinds k ∧ doing (36 + 3 * k + 1) = firsts k ∧ doing (36 + 3 * k + 2) = seconds k
def FR (is doings doing is' doings' doing' : Nat → Int32) : Prop := (∀ q : Nat, q < 9 → is' q = is q) ∧ doings' 0 = doings 0 ∧ (∀ q : Nat, q < 36 → doing' q = doing q) ∧ Bk doing'
theorem x_skinNums : ∀ k : Fin 7, x_low (x_fromN 0 + k.val) = nI ([1, 1, 0, 0, 1, 0, 0].getD k.val 0) ∧ x_high (x_fromN 0 + k.val) = nI ([9, 999, 99, 999, 999, 999, 10].getD k.val 0) ∧ (if k.val < 2 then (1 : Int32) else if k.val = 4 then 1 else 0) = nI ([1, 1, 0, 0, 1, 0, 0].getD k.val 0) ∧ F_X5_highest (nI k.val) = nI ([9, 999, 99, 999, 999, 999, 10].getD k.val 0) ∧ [1, 1, 0, 0, 1, 0, 0].getD k.val 0 ≤ 999 ∧ [9, 999, 99, 999, 999, 999, 10].getD k.val 0 ≤ 999 := by decide +kernel
def x_sLo (k : Nat) : Nat := [1, 1, 0, 0, 1, 0, 0].getD k 0
def x_sHi (k : Nat) : Nat := [9, 999, 99, 999, 999, 999, 10].getD k 0
theorem x_skinL {c : Nat → Nat} {len : Nat} {et ut : Nat → Int32} (hc : Chs c len et ut) (st bt : Int32) (rc : TRec) : ∀ (m k : Nat) (T : TTok) (nums is : Nat → Int32) (bg : Nat) (told : Int32), k ≤ 7 → 7 - k < m → T.2.2.1 ≤ len → (∀ i : Nat, i < k → is (9 + i) = nums i ∧ F_X4_outside (nums i) (nI (x_sLo i)) (nI (x_sHi i)) = 0) →
    ∃ (ok : Int32) (at' bg' : Nat) (told' : Int32) (is' : Nat → Int32), F_X5_isSkin_L20 len ut m 1 k T.2.2.1 bg told is = (ok, at', bg', told', is') ∧ (∀ q : Nat, (q < 9 ∨ 16 ≤ q) → is' q = is q) ∧
      ((ok = 0 ∧ bg' ≤ len ∧ ∃ (T' : TTok) (nums' : Nat → Int32), T'.2.1 = bg' ∧ x_i59 et len st bt rc 0 m k T nums = x_fail st bt rc T' nums') ∨
       (ok = 1 ∧ T.2.2.1 ≤ at' ∧ at' ≤ len ∧ ∃ (T' : TTok) (nums' : Nat → Int32) (n' : Nat), T'.2.2.1 = at' ∧ x_i59 et len st bt rc 0 m k T nums = x_i59 et len st bt rc 0 (n' + 1) 7 T' nums' ∧ ∀ i : Nat, i < 7 → is' (9 + i) = nums' i ∧ F_X4_outside (nums' i) (nI (x_sLo i)) (nI (x_sHi i)) = 0)) := by
  intro m
  induction m with
  | zero => intro k T nums is bg told _ a; exact absurd a (Nat.not_lt_zero _)
  | succ m ih =>
    intro k T nums is bg told hk a hN h
    rw [F_X5_isSkin_L20]
    by_cases c1 : 7 ≤ k
    · have e : k = 7 := by omega
      subst e
      rw [if_pos c1]
      exact ⟨1, _, _, _, _, rfl, fun _ _ => rfl, Or.inr ⟨rfl, Nat.le_refl _, hN, T, nums, m, rfl, rfl, h⟩⟩
    · obtain ⟨e1, e2, e3, e4, e5, e6⟩ := x_skinNums ⟨k, by omega⟩
      dsimp only at e1 e2 e3 e4 e5 e6
      rw [if_neg c1, if_neg (show ¬ (1 : Int32) = 0 by decide), e3, e4]
      repeat rw [x_nmE]
      have hk7 : k < x_many 0 := by
        rw [show x_many 0 = 7 by decide]
        omega
      obtain ⟨ok, at', pl, told', n1, n2⟩ := x_nstep hc st bt rc (v := 0) m k T nums (by decide) hk7 hN e5 e6 e1 e2
      rw [n1]
      dsimp only
      rcases n2 with ⟨q1, q2, q3, q4, T', q5, q6⟩ | ⟨q1, q2, T', q3, q4⟩
      · subst q1
        rw [q6, ← q5]
        obtain ⟨ok2, at2, bg2, told2, is2, l1, l2, l3⟩ := ih (k + 1) T' (upd nums k told') (upd is (9 + k) told') pl told' (by omega) (by omega) (by omega) (fun i hi => by
          by_cases z : i = k
          · subst z
            rw [x_updS, x_updS]
            exact ⟨rfl, q2⟩
          · rw [x_updN _ _ (by omega), x_updN _ _ z]
            exact h i (by omega))
        refine ⟨ok2, at2, bg2, told2, is2, l1, fun q hq => by rw [l2 q hq, x_updN _ _ (by omega)], ?_⟩
        rcases l3 with l3 | ⟨l3, l4, l5⟩
        · exact Or.inl l3
        · exact Or.inr ⟨l3, by omega, l5⟩
      · subst q1
        have e0 : ∀ (m : Nat) (a b : Nat) (x : Int32) (f : Nat → Int32), 0 < m → F_X5_isSkin_L20 len ut m 0 (k + 1) a b x f = (0, a, b, x, f) := by
          intro m a b x f hm
          obtain ⟨m, rfl⟩ : ∃ m0, m = m0 + 1 := ⟨m - 1, by omega⟩
          rw [F_X5_isSkin_L20, if_pos rfl, ite_self]
        rw [e0 _ _ _ _ _ (by omega)]
        exact ⟨0, _, _, _, _, rfl, fun q hq => by rw [x_updN _ _ (by omega)], Or.inl ⟨rfl, q2, T', nums, q3, q4⟩⟩
/-- the draft with one doing more -/
theorem x_relAdd {r0 r1 r2 r3 r4 r5 r6 r7 r8 kind first second : Int32} {n : Nat} {kinds firsts secs is doings doing doing' : Nat → Int32} (h : RelD (r0, r1, r2, r3, r4, r5, r6, r7, r8, n, kinds, firsts, secs) is doings doing) (hn : n < 12) (hd : RecDoing kind first second) (hs : second.toNatClampNeg ≤ 99 ∧ second = nI second.toNatClampNeg) (hb : Bk doing)
    (e0 : doing' (36 + 3 * n) = kind) (e1 : doing' (36 + 3 * n + 1) = first) (e2 : doing' (36 + 3 * n + 2) = second) (e3 : ∀ q : Nat, (q < 36 + 3 * n ∨ 36 + 3 * n + 2 < q) → doing' q = doing q) :
    RelD (r0, r1, r2, r3, r4, r5, r6, r7, r8, n + 1, upd kinds n kind, upd firsts n first, upd secs n second) is (upd doings 1 (nI (n + 1))) doing' ∧ FR is doings doing is (upd doings 1 (nI (n + 1))) doing' := by
  obtain ⟨⟨o1, o2, o3, o4⟩, r1, r2, r3⟩ := h
  refine And.intro (And.intro (And.intro o1 (And.intro (by omega) (And.intro (fun k hk => ?_) (fun k hk => ?_)))) (And.intro r1 (And.intro (x_updS _ _ _) (fun k hk => ?_)))) (And.intro (fun _ _ => rfl) (And.intro (x_updN _ _ (by omega)) (And.intro (fun q hq => e3 q (by omega)) (fun k hk => ?_))))
  · by_cases z : k = n
    · subst z; rw [x_updS]; exact hs
    · rw [x_updN _ _ z]; exact o3 k hk
  · by_cases z : k = n
    · subst z; rw [x_updS, x_updS, x_updS]; exact hd
    · rw [x_updN _ _ z, x_updN _ _ z, x_updN _ _ z]; exact o4 k (by omega)
  · by_cases z : k = n
    · subst z; rw [x_updS, x_updS, x_updS]; exact ⟨e0, e1, e2⟩
    · rw [x_updN _ _ z, x_updN _ _ z, x_updN _ _ z, e3 _ (by omega), e3 _ (by omega), e3 _ (by omega)]
      exact r3 k (by omega)
  · by_cases z : 3 * k + 2 = 36 + 3 * n + 2
    · rw [z, e2]; exact hs
    · rw [e3 _ (by omega)]
      exact hb k hk
/-- what an item leaves, of both sides -/
def ItemIs (len A : Nat) (is doings doing : Nat → Int32) (u : TU) (w : Int32 × Nat × Nat × Int32 × Int32 × Int32 × (Nat → Int32) × (Nat → Int32) × (Nat → Int32)) : Prop :=
  FR is doings doing w.2.2.2.2.2.2.1 w.2.2.2.2.2.2.2.1 w.2.2.2.2.2.2.2.2 ∧
  ((u.1 = 0 ∧ w.1 = 0 ∧ u.2.2.1 = w.2.2.1 ∧ w.2.2.1 ≤ len ∧ ∀ k : Nat, k < 12 → (u.2.2.2.2.2.2.2.2.2.2.2.2.2.2.2.2.2.2.2.2 k).toNatClampNeg ≤ 99 ∧ u.2.2.2.2.2.2.2.2.2.2.2.2.2.2.2.2.2.2.2.2 k = nI (u.2.2.2.2.2.2.2.2.2.2.2.2.2.2.2.2.2.2.2.2 k).toNatClampNeg) ∨
   (u.1 = 1 ∧ w.1 = 1 ∧ u.2.2.2.1 = w.2.1 ∧ A < w.2.1 ∧ w.2.1 ≤ len ∧ u.2.2.2.2.2.1 = w.2.2.2.2.1 ∧ u.2.2.2.2.2.2.1 = w.2.2.2.2.2.1 ∧ RelD u.2.2.2.2.2.2.2.2 w.2.2.2.2.2.2.1 w.2.2.2.2.2.2.2.1 w.2.2.2.2.2.2.2.2))
theorem x_relSec {rc : TRec} {is doings doing : Nat → Int32} (h : RelD rc is doings doing) : ∀ k : Nat, k < 12 → (rc.2.2.2.2.2.2.2.2.2.2.2.2 k).toNatClampNeg ≤ 99 ∧ rc.2.2.2.2.2.2.2.2.2.2.2.2 k = nI (rc.2.2.2.2.2.2.2.2.2.2.2.2 k).toNatClampNeg := by
  obtain ⟨r0, r1, r2, r3, r4, r5, r6, r7, r8, m, kinds, firsts, secs⟩ := rc
  exact h.1.2.2.1
/-- the end of an item: from what stands before the semicolon -/
theorem x_itemEnd {c : Nat → Nat} {len : Nat} {et ut : Nat → Int32} (hc : Chs c len et ut) {st bt : Int32} {rc : TRec} {v n A : Nat} {T : TTok} {nums : Nat → Int32} (hA : A < T.2.2.1) (hN : T.2.2.1 ≤ len) {is doings doing is' doings' doing' : Nat → Int32} {told hs hb : Int32} {pl0 : Nat} (hrd : RelD rc is doings doing) (hfr : FR is doings doing is' doings' doing')
    (htell : ∀ T' : TTok, (x_telling st bt rc v T' nums).1 = 1 ∧ (x_telling st bt rc v T' nums).2.2.2.1 = T'.2.2.1 ∧ (x_telling st bt rc v T' nums).2.2.2.2.2.1 = hs ∧ (x_telling st bt rc v T' nums).2.2.2.2.2.2.1 = hb ∧ RelD (x_telling st bt rc v T' nums).2.2.2.2.2.2.2.2 is' doings' doing') :
    ItemIs len A is doings doing (x_i59 et len st bt rc v (n + 1) (x_many v) T nums) (x_nm (α := Int32 × Nat × Nat) (if ((1, T.2.2.1, pl0, told, hs, hb, is', doings', doing') : Int32 × Nat × Nat × Int32 × Int32 × Int32 × (Nat → Int32) × (Nat → Int32) × (Nat → Int32)).1 = 0 then (0, T.2.2.1, pl0) else x_nm (F_X5_ends len ut T.2.2.1) fun u_26 => if u_26.1 = 0 then (0, u_26.2.1, u_26.2.2) else (1, u_26.2.1, u_26.2.2)) fun u_19 => (u_19.1, u_19.2.1, u_19.2.2, told, hs, hb, is', doings', doing')) := by
  obtain ⟨e, at', pl, n1, n2⟩ := x_estep hc st bt rc (v := v) n T nums hN
  rw [if_neg (show ¬ (1 : Int32) = 0 by decide), n1, x_nmE, x_nmE]
  dsimp only
  rcases n2 with ⟨q1, q2, q3, T', q4, q5⟩ | ⟨q1, q2, T', q3, q4⟩
  · subst q1
    obtain ⟨t1, t2, t3, t4, t5⟩ := htell T'
    rw [if_neg (show ¬ (1 : Int32) = 0 by decide), q5]
    exact And.intro hfr (Or.inr ⟨t1, rfl, t2.trans q4, by dsimp only; omega, q3, t3, t4, t5⟩)
  · subst q1
    rw [if_pos rfl, q4]
    exact And.intro hfr (Or.inl ⟨rfl, rfl, q3, q2, x_relSec hrd⟩)
