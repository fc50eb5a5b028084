/-! the relation of the two sides: what the class holds, what the reference holds -/
abbrev TRec : Type := Int32 × Int32 × Int32 × Int32 × Int32 × Int32 × Int32 × Int32 × Int32 × Nat × (Nat → Int32) × (Nat → Int32) × (Nat → Int32)
abbrev TMom : Type := Int32 × Int32 × Int32 × Int32 × Int32 × Int32 × Int32 × Int32 × Int32 × (Nat → Int32) × (Nat → Int32)
def Btw (lo : Int) (x : Int32) (hi : Int) : Prop := lo ≤ x.toInt ∧ x.toInt ≤ hi
def RecDoing (kind first second : Int32) : Prop :=
  (kind = 0 ∧ Btw 0 first 300 ∧ Btw 1 second 99) ∨ (kind = 1 ∧ Btw 1 first 3 ∧ second = 0) ∨ (kind = 2 ∧ Btw 1 first 9 ∧ second = 0) ∨ (kind = 3 ∧ Btw 20 first 100 ∧ Btw 1 second 99)
/-- a recipe by itself: within its bounds -/
def RecOk : TRec → Prop
  | (radius, skin, filling, water, ends, thin, chance, bentFace, bentBy, n, kinds, firsts, seconds) =>
    (Btw 1 radius 9 ∧ Btw 1 skin 999 ∧ Btw 0 filling 99 ∧ Btw 0 water 999 ∧ Btw 1 ends 999 ∧ Btw 0 thin 999 ∧ Btw 0 chance 10 ∧ Btw 0 bentFace 4 ∧ Btw 0 bentBy 99) ∧ n ≤ 12 ∧
    (∀ k : Nat, k < 12 → (seconds k).toNatClampNeg ≤ 99 ∧ seconds k = nI (seconds k).toNatClampNeg) ∧ ∀ k : Nat, k < n → RecDoing (kinds k) (firsts k) (seconds k)
def RelRec (rc : TRec) (is doings doing : Nat → Int32) : Prop := RecOk rc ∧ match rc with
  | (radius, skin, filling, water, ends, thin, chance, bentFace, bentBy, n, kinds, firsts, seconds) =>
    (is 0 = radius ∧ is 1 = skin ∧ is 2 = filling ∧ is 3 = water ∧ is 4 = ends ∧ is 5 = thin ∧ is 6 = chance ∧ is 7 = bentFace ∧ is 8 = bentBy) ∧
    doings 0 = nI n ∧ ∀ k : Nat, k < n → doing (3 * k) = kinds k ∧ doing (3 * k + 1) = firsts k ∧ doing (3 * k + 2) = seconds k
/-- a moment by itself: within its bounds -/
def MomOk : TMom → Prop
  | (down, core, water, pricked, thin, _, gone, splitAt, steam, degrees, brown) =>
    (∃ d : Nat, d < 4 ∧ down = nI d) ∧ Btw 0 core 300 ∧ Btw 0 water 999 ∧ Btw 0 pricked 99 ∧ Btw 0 thin 15 ∧ (gone = 0 ∨ gone = 1 ∨ gone = 2) ∧ Btw (-9) splitAt 3 ∧ Btw 0 steam 200 ∧ ∀ f : Nat, f < 4 → Btw 0 (degrees f) 300 ∧ Btw 0 (brown f) 999
def RelMom (mo : TMom) (row : Nat → Int32) (r : Nat) : Prop := MomOk mo ∧ match mo with
  | (down, core, water, pricked, thin, seconds, gone, splitAt, steam, degrees, brown) =>
    (∀ f : Nat, f < 4 → row (20 * r + f) = degrees f ∧ row (20 * r + 5 + f) = brown f) ∧ row (20 * r + 4) = core ∧ row (20 * r + 9) = water ∧ row (20 * r + 10) = pricked ∧ row (20 * r + 11) = thin ∧ row (20 * r + 12) = seconds ∧ row (20 * r + 13) = gone ∧ row (20 * r + 14) = splitAt ∧ row (20 * r + 15) = steam ∧ row (20 * r + 16) = down
def RelText (n : Nat) (et : Nat → Int32) (un : Nat) (ut : Nat → Int32) : Prop := n ≤ 300 ∧ un = n ∧ ∀ k : Nat, k < n → et k = ut k &&& 255 ∧ (ut k).toInt8.toInt32 = ut k
/-- what stands behind the recipe's end, and in the drafts: bounds alone -/
def RelBack (doing dseconds : Nat → Int32) : Prop := (∀ k : Nat, k < 24 → (doing (3 * k + 2)).toNatClampNeg ≤ 99 ∧ doing (3 * k + 2) = nI (doing (3 * k + 2)).toNatClampNeg) ∧ ∀ k : Nat, k < 12 → (dseconds k).toNatClampNeg ≤ 99 ∧ dseconds k = nI (dseconds k).toNatClampNeg
def Inv (rc : TRec) (en : Nat) (et : Nat → Int32) (mo i0 i1 : TMom) (kept heats : Nat → Int32) (tests : Nat) (salts crumbsOf : Nat → Int32) (traced : Int64) (un : Nat) (ut is doings doing row isKept uheats orders : Nat → Int32) (utests : Nat) (usalt ucrumbs : Nat → Int32) (utraced : Int64) (dseconds : Nat → Int32) : Prop :=
  RelRec rc is doings doing ∧ RelText en et un ut ∧ RelMom mo row 0 ∧ ((kept 0 = isKept 0 ∧ (kept 0 = 0 ∨ kept 0 = 1) ∧ (kept 0 = 1 → RelMom i0 row 1)) ∧ (kept 1 = isKept 1 ∧ (kept 1 = 0 ∨ kept 1 = 1) ∧ (kept 1 = 1 → RelMom i1 row 2))) ∧
  (∀ q : Nat, q < 4 → heats q = uheats q ∧ Btw 0 (heats q) 99) ∧ (tests ≤ 20 ∧ utests = tests ∧ ∀ q : Nat, q < 20 → salts q = usalt q ∧ crumbsOf q = ucrumbs q ∧ (q < tests → Btw 0 (salts q) 30 ∧ Btw 0 (crumbsOf q) 999)) ∧ traced = utraced ∧ (∀ j : Nat, j < 96 → orders j = x_cells j) ∧ RelBack doing dseconds
theorem x_btw_e8 {x : Int32} (h : Btw 1 x 9) : ¬ 8 * x = 0 := by
  obtain ⟨h1, h2⟩ := h
  obtain ⟨h3, h4⟩ := x_tn (a := x) (by omega)
  rw [h4]
  have h5 : 8 * nI x.toNatClampNeg = nI (8 * x.toNatClampNeg) := pk_mul 8 x.toNatClampNeg
  rw [h5]
  exact nI_ne0 (by omega) (by omega)
theorem inv_facts {r0 r1 r2 r3 r4 r5 r6 r7 r8 : Int32} {n : Nat} {kinds firsts seconds : Nat → Int32} {en : Nat} {et : Nat → Int32} {mo i0 i1 : TMom} {kept heats : Nat → Int32} {tests : Nat} {salts crumbsOf : Nat → Int32} {traced : Int64} {un : Nat} {ut is doings doing row isKept uheats orders : Nat → Int32} {utests : Nat} {usalt ucrumbs : Nat → Int32} {utraced : Int64} {dseconds : Nat → Int32}
    (h : Inv (r0, r1, r2, r3, r4, r5, r6, r7, r8, n, kinds, firsts, seconds) en et mo i0 i1 kept heats tests salts crumbsOf traced un ut is doings doing row isKept uheats orders utests usalt ucrumbs utraced dseconds) :
    en ≤ 300 ∧ n ≤ 12 ∧ (∀ k : Nat, k < 12 → (seconds k).toNatClampNeg ≤ 99 ∧ seconds k = nI (seconds k).toNatClampNeg) ∧ tests ≤ 20 ∧ un ≤ 300 ∧ (doings 0).toNatClampNeg ≤ 12 ∧ doings 0 = nI (doings 0).toNatClampNeg ∧ (∀ k : Nat, k < 12 → (doing (3 * k + 2)).toNatClampNeg ≤ 99 ∧ doing (3 * k + 2) = nI (doing (3 * k + 2)).toNatClampNeg) ∧ ¬ 8 * is 0 = 0 ∧ (∀ j : Nat, j < 96 → orders j = x_cells j) ∧ utests ≤ 20 := by
  obtain ⟨⟨⟨⟨a1, -⟩, a2, a3, -⟩, ⟨b1, -⟩, b2, b3⟩, ⟨c1, c2, -⟩, -, -, -, ⟨d1, d2, -⟩, -, d3, d4, -⟩ := h
  have e : (doings 0).toNatClampNeg = n := by rw [b2, nI_clamp (by omega)]
  exact ⟨c1, a2, a3, d1, by omega, by omega, by rw [e]; exact b2, fun k hk => d4 k (by omega), by rw [b1]; exact x_btw_e8 a1, d3, by omega⟩
section XL
variable {p : Program} {l : Launch} {e : Env} {R : Room} {s : State} {m : MethodId} {args : Array Value} {below : List Frame} {meth : Method} {c : Code} {H H0 : Heap} {locs : List Loc} {cells slots : Nat} {Q : State → Prop}
variable {pc : Nat} {ls : Array Slot} {A : Nat → Prop} {cc : ByteArray} {rest : List Value}
theorem x_sld {b L k : Nat} {xs : Nat → Int32} (hx : p.tables.exec = Jvm.exec) (hb : c.code = cc) (hX : va_X b L xs s H0) (hbl : b < H0.size) (hbA : ¬ A b) (hS : va_S A H0 H locs) (hk : k < L) (hL : L < 2 ^ 31) (hdg : decode cc pc = .ok (.iaload, 1))
    (kk : W p l e R s m args below meth c H locs cells slots Q (F0 m (pc + 1) ls (.int (xs k) :: rest))) : W p l e R s m args below meth c H locs cells slots Q (F0 m pc ls (.int (nI k) :: .ref b :: rest)) := by
  refine va_sld hx hb hX hbl hbA hS (vp_in_nI hk hL) hdg ?_
  rw [nI_clamp (by omega)]
  exact kk
theorem x_icmp_gt5 {k L : Nat} (hx : p.tables.exec = Jvm.exec) (hb : c.code = cc) (hk : k < 2 ^ 30) (hL : L < 2 ^ 30) {off : Int} {tgt : Nat} (hdg : decode cc pc = .ok (.if_icmp .gt off, 3)) (ht : (pc : Int) + off = (tgt : Int)) (kt : ¬ k + 5 ≤ L → W p l e R s m args below meth c H locs cells slots Q (F0 m tgt ls rest)) (kf : k + 5 ≤ L → W p l e R s m args below meth c H locs cells slots Q (F0 m (pc + 3) ls rest)) : W p l e R s m args below meth c H locs cells slots Q (F0 m pc ls (.int (nI L - 5) :: .int (nI k) :: rest)) := by
  have e : (nI L - 5).toInt = (L : Int) - 5 := pk_sub_toInt (b := 5) hL (by decide)
  have e2 : nI L - 5 < nI k ↔ ¬ k + 5 ≤ L := by
    rw [Int32.lt_iff_toInt_lt, e, nI_toInt (by omega)]
    omega
  exact lv_icmp_gt hx hb hdg ht (fun q => kt (e2.mp q)) (fun q => kf (Decidable.not_not.mp (fun z => q (e2.mpr z))))
end XL
theorem x_cmp_eq {x y : Int64} (h : x = y) : lg_cmp x y = 0 := by
  subst h
  unfold lg_cmp
  rw [if_neg Int64.lt_irrefl, if_pos rfl]
