section
/-! rows of the kit to paste: bits; pure rows -/
def bt (x : Int32) (i : Nat) : Bool := x.toBitVec.getLsbD i
theorem b_ext {x y : Int32} (h : ∀ i, i < 32 → bt x i = bt y i) : x = y := Int32.toBitVec_inj.mp (BitVec.eq_of_getLsbD_eq (fun i hi => h i hi))
theorem b_or (x y : Int32) (i : Nat) : bt (x ||| y) i = (bt x i || bt y i) := by unfold bt; rw [Int32.toBitVec_or, BitVec.getLsbD_or]
theorem b_and (x y : Int32) (i : Nat) : bt (x &&& y) i = (bt x i && bt y i) := by unfold bt; rw [Int32.toBitVec_and, BitVec.getLsbD_and]
theorem b_xor (x y : Int32) (i : Nat) : bt (x ^^^ y) i = (bt x i ^^ bt y i) := by unfold bt; rw [Int32.toBitVec_xor, BitVec.getLsbD_xor]
theorem b_big {x : Int32} {i : Nat} (h : 32 ≤ i) : bt x i = false := BitVec.getLsbD_of_ge _ _ h
theorem b_255 (i : Nat) : bt 255 i = decide (i < 8) := by
  rcases Nat.lt_or_ge i 32 with h | h
  · exact (by decide +kernel : ∀ i, i < 32 → bt 255 i = decide (i < 8)) i h
  · rw [b_big h, decide_eq_false (by omega)]
theorem b_65535 (i : Nat) : bt 65535 i = decide (i < 16) := by
  rcases Nat.lt_or_ge i 32 with h | h
  · exact (by decide +kernel : ∀ i, i < 32 → bt 65535 i = decide (i < 16)) i h
  · rw [b_big h, decide_eq_false (by omega)]
theorem b_m1 : ∀ i, i < 32 → bt (-1) i = true := by decide +kernel
theorem b_0 (i : Nat) : bt 0 i = false := BitVec.getLsbD_zero
theorem s_l : ∀ n, n < 32 → ((nI n &&& 31).toBitVec.smod 32).toNat = n := by decide +kernel
theorem s_u : ∀ n, n < 32 → (((nI n).toUInt32 &&& Int32.toUInt32 31).toBitVec % 32).toNat = n := by decide +kernel
theorem b_shl (n : Nat) (hn : n < 32) (x : Int32) {i : Nat} (hi : i < 32) : bt (x <<< (nI n &&& 31)) i = (decide (n ≤ i) && bt x (i - n)) := by
  unfold bt
  rw [Int32.toBitVec_shiftLeft]
  show (x.toBitVec <<< ((nI n &&& 31).toBitVec.smod 32).toNat).getLsbD i = _
  rw [s_l n hn, BitVec.getLsbD_shiftLeft]
  rcases Nat.lt_or_ge i n with h | h
  · simp [h, Nat.not_le.mpr h]
  · simp [hi, h, Nat.not_lt.mpr h]
theorem b_ushr (n : Nat) (hn : n < 32) (x : Int32) (i : Nat) : bt ((x.toUInt32 >>> ((nI n).toUInt32 &&& Int32.toUInt32 31)).toInt32) i = bt x (n + i) := by
  show (x.toUInt32 >>> ((nI n).toUInt32 &&& Int32.toUInt32 31)).toBitVec.getLsbD i = x.toUInt32.toBitVec.getLsbD (n + i)
  rw [UInt32.toBitVec_shiftRight]
  show (x.toUInt32.toBitVec >>> (((nI n).toUInt32 &&& Int32.toUInt32 31).toBitVec % 32).toNat).getLsbD i = _
  rw [s_u n hn, BitVec.getLsbD_ushiftRight]
theorem b_sshr (n : Nat) (hn : n < 32) (x : Int32) {i : Nat} (hi : i < 32) : bt (x >>> (nI n &&& 31)) i = if n + i < 32 then bt x (n + i) else bt x 31 := by
  unfold bt
  rw [Int32.toBitVec_shiftRight]
  show (x.toBitVec.sshiftRight ((nI n &&& 31).toBitVec.smod 32).toNat).getLsbD i = _
  rw [s_l n hn, BitVec.getLsbD_sshiftRight, BitVec.msb_eq_getLsbD_last]
  simp [hi]
theorem b_shl8 (x : Int32) {i : Nat} (hi : i < 32) : bt (x <<< ((8 : Int32) &&& 31)) i = (decide (8 ≤ i) && bt x (i - 8)) := b_shl 8 (by omega) x hi
theorem b_shl16 (x : Int32) {i : Nat} (hi : i < 32) : bt (x <<< ((16 : Int32) &&& 31)) i = (decide (16 ≤ i) && bt x (i - 16)) := b_shl 16 (by omega) x hi
theorem b_shl24 (x : Int32) {i : Nat} (hi : i < 32) : bt (x <<< ((24 : Int32) &&& 31)) i = (decide (24 ≤ i) && bt x (i - 24)) := b_shl 24 (by omega) x hi
theorem b_sshr8 (x : Int32) {i : Nat} (hi : i < 32) : bt (x >>> ((8 : Int32) &&& 31)) i = if 8 + i < 32 then bt x (8 + i) else bt x 31 := b_sshr 8 (by omega) x hi
theorem pk_us {f : Nat → Int32} {k : Nat} {x : Int32} : upd f k x k = x := if_pos rfl
theorem pk_un {f : Nat → Int32} {k j : Nat} {x : Int32} (h : j ≠ k) : upd f k x j = f j := if_neg h
theorem pk_sub {a b : Nat} (h : b ≤ a) : nI a - nI b = nI (a - b) := by
  obtain ⟨c, rfl⟩ : ∃ c, a = c + b := ⟨a - b, by omega⟩
  rw [← nI_add, Int32.add_sub_cancel, Nat.add_sub_cancel]
theorem pk_m1 (n : Nat) : nI (n + 1) + (-1) = nI n := by
  rw [← nI_1, Int32.add_assoc, show (1 : Int32) + (-1) = 0 from rfl, Int32.add_zero]
theorem pk_mul (a b : Nat) : nI a * nI b = nI (a * b) := (Int32.ofNat_mul a b).symm
theorem pk_div {a d : Nat} (ha : a < 2 ^ 31) (h0 : 0 < d) (hd : d < 2 ^ 31) : nI a / nI d = nI (a / d) := by
  apply Int32.toInt_inj.mp
  rw [lg_idiv_nonneg (by rw [nI_toInt ha]; omega) (by rw [nI_toInt hd]; omega), nI_toInt ha, nI_toInt hd, nI_toInt (Nat.lt_of_le_of_lt (Nat.div_le_self a d) ha)]
  first | rfl | exact (Int.natCast_ediv _ _).symm
theorem pk_rem {a d : Nat} (ha : a < 2 ^ 31) (h0 : 0 < d) (hd : d < 2 ^ 31) : nI a - nI a / nI d * nI d = nI (a % d) := by
  rw [pk_div ha h0 hd, pk_mul, pk_sub (Nat.div_mul_le_self a d)]
  exact congrArg nI (by have := Nat.div_add_mod' a d; omega)
theorem pk_ix (x : Int32) {n : Nat} (hn : n < 2 ^ 31) : x < 0 ∨ nI n ≤ x ∨ ∃ j : Nat, j < n ∧ x = nI j := by
  by_cases h : x < 0
  · exact Or.inl h
  · obtain ⟨j, hj, rfl⟩ := nI_of h
    by_cases h2 : j < n
    · exact Or.inr (Or.inr ⟨j, h2, rfl⟩)
    · exact Or.inr (Or.inl (nI_le (by omega) hj))
end
section
/-! chains of edges among the principals below P: no print in this part -/
def dl_R (P : Nat) (e : Nat → Nat → Prop) : Nat → Nat → Nat → Prop
  | 0, a, b => a = b
  | n + 1, a, b => ∃ c, c < P ∧ dl_R P e n a c ∧ e c b
def dl_T (P : Nat) (e : Nat → Nat → Prop) (a b : Nat) : Prop := ∃ n, dl_R P e n a b
theorem dl_T0 (P : Nat) (e : Nat → Nat → Prop) (a : Nat) : dl_T P e a a := ⟨0, rfl⟩
theorem dl_Ts {P : Nat} {e : Nat → Nat → Prop} {a c b : Nat} (h : dl_T P e a c) (hc : c < P) (he : e c b) : dl_T P e a b := by
  obtain ⟨n, hn⟩ := h
  exact ⟨n + 1, c, hc, hn, he⟩
theorem dl_Tt {P : Nat} {e : Nat → Nat → Prop} {a b c : Nat} (h : dl_T P e a b) (g : dl_T P e b c) : dl_T P e a c := by
  obtain ⟨m, hm⟩ := g
  induction m generalizing c with
  | zero =>
    have z : b = c := hm
    subst z
    exact h
  | succ m ih =>
    obtain ⟨d, hd, h1, h2⟩ := hm
    exact dl_Ts (ih h1) hd h2
/-- what holds of a, and goes over every edge, holds of all that a reaches -/
theorem dl_Ti {P : Nat} {e : Nat → Nat → Prop} {a : Nat} {Q : Nat → Prop} (h0 : Q a) (hs : ∀ c b, c < P → b < P → Q c → e c b → Q b) : ∀ n b, b < P → dl_R P e n a b → Q b := by
  intro n
  induction n with
  | zero =>
    intro b _ h
    have z : a = b := h
    subst z
    exact h0
  | succ n ih =>
    intro b hb h
    obtain ⟨c, hc, h1, h2⟩ := h
    exact hs c b hc hb (ih c hc h1) h2
/-! counting below n -/
noncomputable def dl_cn (p : Nat → Prop) : Nat → Nat
  | 0 => 0
  | n + 1 => dl_cn p n + @ite Nat (p n) (Classical.propDecidable (p n)) 1 0
theorem dl_cn_t {p : Nat → Prop} {n : Nat} (h : p n) : dl_cn p (n + 1) = dl_cn p n + 1 := by
  show dl_cn p n + @ite Nat (p n) (Classical.propDecidable (p n)) 1 0 = _
  rw [if_pos h]
theorem dl_cn_f {p : Nat → Prop} {n : Nat} (h : ¬ p n) : dl_cn p (n + 1) = dl_cn p n := by
  show dl_cn p n + @ite Nat (p n) (Classical.propDecidable (p n)) 1 0 = _
  rw [if_neg h, Nat.add_zero]
theorem dl_cn_le (p : Nat → Prop) : ∀ n, dl_cn p n ≤ n := by
  intro n
  induction n with
  | zero => exact Nat.le_refl _
  | succ n ih =>
    by_cases h : p n
    · rw [dl_cn_t h]; omega
    · rw [dl_cn_f h]; omega
theorem dl_cn_m {p q : Nat → Prop} : ∀ n, (∀ x, x < n → p x → q x) → dl_cn p n ≤ dl_cn q n := by
  intro n
  induction n with
  | zero => intro _; exact Nat.le_refl _
  | succ n ih =>
    intro h
    have i1 := ih (fun x hx => h x (by omega))
    by_cases hp : p n
    · rw [dl_cn_t hp, dl_cn_t (h n (by omega) hp)]; omega
    · rw [dl_cn_f hp]
      by_cases hq : q n
      · rw [dl_cn_t hq]; omega
      · rw [dl_cn_f hq]; exact i1
theorem dl_cn_s {p q : Nat → Prop} {x : Nat} (hq : q x) (hp : ¬ p x) : ∀ n, (∀ y, y < n → p y → q y) → x < n → dl_cn p n < dl_cn q n := by
  intro n
  induction n with
  | zero => intro _ hx; omega
  | succ n ih =>
    intro h hx
    by_cases e : x = n
    · subst e
      have i1 := dl_cn_m x (fun y hy => h y (by omega))
      rw [dl_cn_f hp, dl_cn_t hq]; omega
    · have i1 := ih (fun y hy => h y (by omega)) (by omega)
      by_cases p1 : p n
      · rw [dl_cn_t p1, dl_cn_t (h n (by omega) p1)]; omega
      · rw [dl_cn_f p1]
        by_cases q1 : q n
        · rw [dl_cn_t q1]; omega
        · rw [dl_cn_f q1]; exact i1
theorem dl_cn_1 {p : Nat → Prop} {x n : Nat} (h : p x) (hx : x < n) : 1 ≤ dl_cn p n := by
  have i1 := dl_cn_s (p := fun _ => False) (q := p) h (fun z => z) n (fun _ _ z => z.elim) hx
  omega
/-- a chain among P principals need have no more than P - 1 edges -/
theorem dl_short {P : Nat} {e : Nat → Nat → Prop} {a b : Nat} (ha : a < P) (hb : b < P) (h : dl_T P e a b) : ∃ n, n < P ∧ dl_R P e n a b := by
  have key : ∀ n, n + 1 ≤ dl_cn (fun c => ∃ m, m ≤ n ∧ dl_R P e m a c) P ∨ ∃ k, k < n ∧ ∀ c d, c < P → d < P → (∃ m, m ≤ k ∧ dl_R P e m a c) → e c d → ∃ m, m ≤ k ∧ dl_R P e m a d := by
    intro n
    induction n with
    | zero => exact Or.inl (dl_cn_1 (x := a) ⟨0, Nat.le_refl _, rfl⟩ ha)
    | succ n ih =>
      rcases ih with ih | ⟨k, hk, hc⟩
      · by_cases z : ∀ c d, c < P → d < P → (∃ m, m ≤ n ∧ dl_R P e m a c) → e c d → ∃ m, m ≤ n ∧ dl_R P e m a d
        · exact Or.inr ⟨n, by omega, z⟩
        · refine Or.inl ?_
          have z2 : ∃ c d, c < P ∧ d < P ∧ (∃ m, m ≤ n ∧ dl_R P e m a c) ∧ e c d ∧ ¬ ∃ m, m ≤ n ∧ dl_R P e m a d := by
            refine Classical.byContradiction fun w => z fun c d hc hd h1 h2 => Classical.byContradiction fun w2 => w ⟨c, d, hc, hd, h1, h2, w2⟩
          obtain ⟨c, d, hc, hd, ⟨m, hm, hr⟩, h2, h3⟩ := z2
          have i1 := dl_cn_s (p := fun c => ∃ m, m ≤ n ∧ dl_R P e m a c) (q := fun c => ∃ m, m ≤ n + 1 ∧ dl_R P e m a c) (x := d) ⟨m + 1, by omega, c, hc, hr, h2⟩ h3 P (fun y _ ⟨m, hm, hr⟩ => ⟨m, by omega, hr⟩) hd
          omega
      · exact Or.inr ⟨k, by omega, hc⟩
  rcases key P with k1 | ⟨k, hk, hc⟩
  · have k2 := dl_cn_le (fun c => ∃ m, m ≤ P ∧ dl_R P e m a c) P
    omega
  · obtain ⟨n, hn⟩ := h
    obtain ⟨m, hm, hr⟩ := dl_Ti (Q := fun c => ∃ m, m ≤ k ∧ dl_R P e m a c) ⟨0, Nat.zero_le _, rfl⟩ hc n b hb hn
    exact ⟨m, by omega, hr⟩
end
section
/-! masks of principals, both closures and the effective readers; no print in this part (it wants the pasted rows bt, b_ext, b_and, b_or, b_0, b_big, b_shl, b_sshr, s_l) -/
theorem dl_1 : ∀ i, i < 32 → bt 1 i = decide (i = 0) := by decide +kernel
theorem dl_one {p i : Nat} (hp : p < 32) (hi : i < 32) : bt ((1 : Int32) <<< (nI p &&& 31)) i = decide (i = p) := by
  rw [b_shl p hp 1 hi]
  rcases Nat.lt_or_ge i p with h | h
  · rw [decide_eq_false (show ¬ p ≤ i by omega), decide_eq_false (show ¬ i = p by omega)]
    rfl
  · rw [decide_eq_true h, dl_1 (i - p) (by omega), Bool.true_and]
    by_cases e : i = p
    · rw [decide_eq_true e, decide_eq_true (show i - p = 0 by omega)]
    · rw [decide_eq_false e, decide_eq_false (show ¬ i - p = 0 by omega)]
theorem dl_bz {x : Int32} {p : Nat} (hp : p < 32) : (x &&& ((1 : Int32) <<< (nI p &&& 31))) = 0 ↔ bt x p = false := by
  constructor
  · intro h
    have t := congrArg (fun y => bt y p) h
    have t : bt (x &&& ((1 : Int32) <<< (nI p &&& 31))) p = bt 0 p := t
    rw [b_and, dl_one hp hp, b_0, decide_eq_true rfl, Bool.and_true] at t
    exact t
  · intro h
    apply b_ext
    intro i hi
    rw [b_and, dl_one hp hi, b_0]
    by_cases e : i = p
    · subst e
      rw [h, Bool.false_and]
    · rw [decide_eq_false e, Bool.and_false]
theorem dl_bs {x : Int32} {p : Nat} (hp : p < 32) : ((x >>> (nI p &&& 31)) &&& 1) = 0 ↔ bt x p = false := by
  have h0 : bt (x >>> (nI p &&& 31)) 0 = bt x p := by
    rw [b_sshr p hp x (by omega), Nat.add_zero, if_pos hp]
  constructor
  · intro h
    have t : bt ((x >>> (nI p &&& 31)) &&& 1) 0 = bt 0 0 := congrArg (fun y => bt y 0) h
    rw [b_and, h0, b_0, dl_1 0 (by omega), decide_eq_true rfl, Bool.and_true] at t
    exact t
  · intro h
    apply b_ext
    intro i hi
    rw [b_and, dl_1 i hi, b_0]
    by_cases e : i = 0
    · subst e
      rw [h0, h, Bool.false_and]
    · rw [decide_eq_false e, Bool.and_false]
theorem dl_nt {x : Bool} (h : ¬ x = false) : x = true := by cases x <;> first | rfl | exact absurd rfl h
theorem dl_nf {x : Bool} (h : ¬ x = true) : x = false := by cases x <;> first | rfl | exact absurd rfl h
theorem dl_tf {x : Bool} (h : x = true) : ¬ x = false := by rw [h]; decide
/-- the direct edges as rows of actors -/
def dl_E (D : Nat → Int32) (a b : Nat) : Prop := bt (D b) a = true
/-! the component's closure, by the middle principal -/
def dl_W (A : Nat → Int32) (m : Nat) : Nat → Int32 := fun x => if bt (A x) m = true then A x ||| A m else A x
theorem dl_Wb (A : Nat → Int32) (m x q : Nat) : bt (dl_W A m x) q = true ↔ bt (A x) q = true ∨ (bt (A x) m = true ∧ bt (A m) q = true) := by
  unfold dl_W
  by_cases h : bt (A x) m = true
  · rw [if_pos h, b_or, Bool.or_eq_true]
    exact ⟨fun z => z.elim Or.inl (fun y => Or.inr ⟨h, y⟩), fun z => z.elim Or.inl (fun y => Or.inr y.2)⟩
  · rw [if_neg h]
    exact ⟨Or.inl, fun z => z.elim (fun y => y) (fun y => absurd y.1 h)⟩
theorem dl_Wm (A : Nat → Int32) (m : Nat) : dl_W A m m = A m := by
  unfold dl_W
  by_cases h : bt (A m) m = true
  · rw [if_pos h]
    apply b_ext
    intro i _
    rw [b_or, Bool.or_self]
  · rw [if_neg h]
def dl_V (P : Nat) (D A : Nat → Int32) (m : Nat) : Prop := (∀ p, p < P → ∀ q, bt (A p) q = true → q < P ∧ dl_T P (dl_E D) q p) ∧ (∀ p, p < P → bt (A p) p = true) ∧ (∀ p, p < P → ∀ q, bt (D p) q = true → bt (A p) q = true) ∧ (∀ k, k < m → ∀ p, p < P → ∀ q, bt (A k) q = true → bt (A p) k = true → bt (A p) q = true)
theorem dl_V0 {P : Nat} {D A : Nat → Int32} (hP : P ≤ 32) (hD : ∀ p, p < P → ∀ q, bt (D p) q = true → q < P) (hA : ∀ p, p < P → A p = D p ||| ((1 : Int32) <<< (nI p &&& 31))) : dl_V P D A 0 := by
  have hb : ∀ p, p < P → ∀ q, bt (A p) q = true ↔ bt (D p) q = true ∨ q = p := by
    intro p hp q
    rcases Nat.lt_or_ge q 32 with h | h
    · rw [hA p hp, b_or, dl_one (by omega) h, Bool.or_eq_true, decide_eq_true_iff]
    · rw [b_big h, b_big h]
      exact ⟨fun z => absurd z (by decide), fun z => z.elim (fun y => absurd y (by decide)) (fun y => by omega)⟩
  refine ⟨fun p hp q hq => ?_, fun p hp => (hb p hp p).mpr (Or.inr rfl), fun p hp q hq => (hb p hp q).mpr (Or.inl hq), fun k hk => absurd hk (by omega)⟩
  rcases (hb p hp q).mp hq with h | h
  · exact ⟨hD p hp q h, dl_Ts (dl_T0 P _ q) (hD p hp q h) h⟩
  · subst h
    exact ⟨hp, dl_T0 P _ q⟩
theorem dl_Vs {P : Nat} {D A A' : Nat → Int32} {m : Nat} (hm : m < P) (V : dl_V P D A m) (hA : ∀ x, x < P → A' x = dl_W A m x) : dl_V P D A' (m + 1) := by
  obtain ⟨v1, v2, v3, v4⟩ := V
  have hb : ∀ p, p < P → ∀ q, bt (A' p) q = true ↔ bt (A p) q = true ∨ (bt (A p) m = true ∧ bt (A m) q = true) := by
    intro p hp q
    rw [hA p hp]
    exact dl_Wb A m p q
  refine ⟨fun p hp q hq => ?_, fun p hp => (hb p hp p).mpr (Or.inl (v2 p hp)), fun p hp q hq => (hb p hp q).mpr (Or.inl (v3 p hp q hq)), fun k hk p hp q h1 h2 => ?_⟩
  · rcases (hb p hp q).mp hq with h | ⟨h, h'⟩
    · exact v1 p hp q h
    · exact ⟨(v1 m hm q h').1, dl_Tt (v1 m hm q h').2 (v1 p hp m h).2⟩
  · have hk2 : k < P := by omega
    have mp : bt (A p) k = true ∨ (bt (A p) m = true ∧ bt (A m) k = true) := (hb p hp k).mp h2
    have mk : bt (A k) q = true ∨ (bt (A k) m = true ∧ bt (A m) q = true) := (hb k hk2 q).mp h1
    rcases Nat.lt_or_ge k m with h | h
    · rcases mp with a | ⟨a, b⟩
      · rcases mk with c | ⟨c, d⟩
        · exact (hb p hp q).mpr (Or.inl (v4 k h p hp q c a))
        · exact (hb p hp q).mpr (Or.inr ⟨v4 k h p hp m c a, d⟩)
      · rcases mk with c | ⟨c, d⟩
        · exact (hb p hp q).mpr (Or.inr ⟨a, v4 k h m hm q c b⟩)
        · exact (hb p hp q).mpr (Or.inr ⟨a, d⟩)
    · have e : k = m := by omega
      subst e
      have a : bt (A p) k = true := mp.elim (fun y => y) (fun y => y.1)
      have c : bt (A k) q = true := mk.elim (fun y => y) (fun y => y.2)
      exact (hb p hp q).mpr (Or.inr ⟨a, c⟩)
/-- what the component keeps of its closure -/
def dl_A (P : Nat) (D A : Nat → Int32) : Prop := ∀ p, p < P → ∀ q, bt (A p) q = true ↔ q < P ∧ dl_T P (dl_E D) q p
theorem dl_Vf {P : Nat} {D A : Nat → Int32} (V : dl_V P D A P) : dl_A P D A := by
  obtain ⟨v1, v2, v3, v4⟩ := V
  intro p hp q
  refine ⟨v1 p hp q, fun h => ?_⟩
  obtain ⟨hq, n, hn⟩ := h
  exact dl_Ti (Q := fun b => bt (A b) q = true) (v2 q hq) (fun c b hc hb h1 h2 => v4 c hc b hb q h1 (v3 b hb c h2)) n p hp hn
/-! the reference's closure: cells C (8 i + j), by rounds of one edge more -/
def dl_C (P : Nat) (e : Nat → Nat → Prop) (C : Nat → Int32) (r : Nat) : Prop := (∀ x, x < 64 → C x = 0 ∨ C x = 1) ∧ (∀ i j, i < P → j < P → ¬ C (i * 8 + j) = 0 → dl_T P e i j) ∧ (∀ m i j, m ≤ r → i < P → j < P → dl_R P e m i j → ¬ C (i * 8 + j) = 0)
def dl_Ci (P : Nat) (e : Nat → Nat → Prop) (C0 C : Nat → Int32) (t : Nat) : Prop := (∀ x, x < 64 → C x = 0 ∨ C x = 1) ∧ (∀ i j, i < P → j < P → ¬ C (i * 8 + j) = 0 → dl_T P e i j) ∧ (∀ x, ¬ C0 x = 0 → ¬ C x = 0) ∧ (∀ s, s < t → ¬ C0 (s / (P * P) * 8 + s / P % P) = 0 → e (s / P % P) (s % P) → ¬ C (s / (P * P) * 8 + s % P) = 0)
theorem dl_ix {x j M P : Nat} (hx : x < M) (hj : j < P) : x * P + j < M * P := by
  have h : (x + 1) * P ≤ M * P := Nat.mul_le_mul_right P hx
  rw [Nat.add_mul, Nat.one_mul] at h
  omega
theorem dl_dm {x j P : Nat} (hj : j < P) : (x * P + j) / P = x ∧ (x * P + j) % P = j := by
  have hp : 0 < P := by omega
  constructor
  · rw [Nat.mul_comm, Nat.mul_add_div hp, Nat.div_eq_of_lt hj, Nat.add_zero]
  · rw [Nat.mul_comm, Nat.mul_add_mod, Nat.mod_eq_of_lt hj]
theorem dl_C0 {P : Nat} {e : Nat → Nat → Prop} {C : Nat → Int32} (hP : P ≤ 8) (h1 : ∀ x, x < 64 → C x = 0 ∨ C x = 1) (h2 : ∀ i j, i < P → j < P → (¬ C (i * 8 + j) = 0 ↔ i = j ∨ e i j)) : dl_C P e C 0 := by
  refine ⟨h1, fun i j hi hj h => ?_, fun m i j hm hi hj h => ?_⟩
  · rcases (h2 i j hi hj).mp h with z | z
    · subst z
      exact dl_T0 P e i
    · exact dl_Ts (dl_T0 P e i) hi z
  · have e0 : m = 0 := by omega
    subst e0
    have z : i = j := h
    exact (h2 i j hi hj).mpr (Or.inl z)
theorem dl_Ci0 {P : Nat} {e : Nat → Nat → Prop} {C : Nat → Int32} {r : Nat} (h : dl_C P e C r) : dl_Ci P e C C 0 := ⟨h.1, h.2.1, fun _ z => z, fun s hs => absurd hs (by omega)⟩
theorem dl_Cs {P : Nat} {e : Nat → Nat → Prop} {C0 C : Nat → Int32} {r : Nat} (h : dl_C P e C0 r) (g : dl_Ci P e C0 C (P * P * P)) : dl_C P e C (r + 1) := by
  refine ⟨g.1, g.2.1, fun m i j hm hi hj hr => ?_⟩
  rcases Nat.lt_or_ge r m with h1 | h1
  · have e0 : m = r + 1 := by omega
    subst e0
    obtain ⟨c, hc, h2, h3⟩ := hr
    have h4 := h.2.2 r i c (Nat.le_refl _) hi hc h2
    have h5 := dl_ix (dl_ix hi hc) hj
    have d1 := dl_dm (x := i * P + c) hj
    have d2 := dl_dm (x := i) hc
    have d3 : ((i * P + c) * P + j) / (P * P) = i := by rw [← Nat.div_div_eq_div_mul, d1.1, d2.1]
    have h6 := g.2.2.2 ((i * P + c) * P + j) h5
    rw [d3, d1.1, d1.2, d2.2] at h6
    exact h6 h4 h3
  · exact g.2.2.1 _ (h.2.2 m i j h1 hi hj hr)
theorem dl_cell {i j a b : Nat} (hj : j < 8) (hb : b < 8) (h : i * 8 + j = a * 8 + b) : i = a ∧ j = b := by omega
/-- one turn of the inner loop -/
theorem dl_Cis {P : Nat} {e : Nat → Nat → Prop} {C0 C C' : Nat → Int32} {t : Nat} (hP : 0 < P) (hP8 : P ≤ 8) (g : dl_Ci P e C0 C t) (h : (C' = C ∧ ¬ (¬ C (t / (P * P) * 8 + t / P % P) = 0 ∧ e (t / P % P) (t % P))) ∨ (C' = upd C (t / (P * P) * 8 + t % P) 1 ∧ ¬ C (t / (P * P) * 8 + t / P % P) = 0 ∧ e (t / P % P) (t % P))) (hi : t / (P * P) < P) : dl_Ci P e C0 C' (t + 1) := by
  obtain ⟨g1, g2, g3, g4⟩ := g
  have hk : t / P % P < P := Nat.mod_lt _ hP
  have hj : t % P < P := Nat.mod_lt _ hP
  rcases h with ⟨h1, h2⟩ | ⟨h1, h2, h3⟩
  · subst h1
    refine ⟨g1, g2, g3, fun s hs a b => ?_⟩
    rcases Nat.lt_or_ge s t with z | z
    · exact g4 s z a b
    · have e0 : s = t := by omega
      subst e0
      exact absurd ⟨g3 _ a, b⟩ h2
  · subst h1
    have u : ∀ x, ¬ C x = 0 → ¬ upd C (t / (P * P) * 8 + t % P) 1 x = 0 := by
      intro x hx
      unfold upd
      split
      · decide
      · exact hx
    refine ⟨fun x hx => ?_, fun i j hi' hj' h => ?_, fun x hx => u x (g3 x hx), fun s hs a b => ?_⟩
    · unfold upd
      split
      · exact Or.inr rfl
      · exact g1 x hx
    · unfold upd at h
      split at h
      · rename_i z
        have tk := dl_Ts (g2 _ _ hi hk h2) hk h3
        obtain ⟨e1, e2⟩ := dl_cell (show j < 8 by omega) (show t % P < 8 by omega) z
        rw [e1, e2]
        exact tk
      · exact g2 i j hi' hj' h
    · rcases Nat.lt_or_ge s t with z | z
      · exact u _ (g4 s z a b)
      · have e0 : s = t := by omega
        subst e0
        unfold upd
        rw [if_pos rfl]
        decide
/-! effective readers -/
def dl_e (A : Nat → Int32) (o : Nat) (r : Int32) : Nat → Int32
  | 0 => A o
  | n + 1 => if bt r n = true then dl_e A o r n ||| A n else dl_e A o r n
theorem dl_eb (A : Nat → Int32) (o : Nat) (r : Int32) (q : Nat) : ∀ n, bt (dl_e A o r n) q = true ↔ bt (A o) q = true ∨ ∃ s, s < n ∧ bt r s = true ∧ bt (A s) q = true := by
  intro n
  induction n with
  | zero => exact ⟨Or.inl, fun h => h.elim (fun y => y) (fun ⟨s, hs, _⟩ => absurd hs (by omega))⟩
  | succ n ih =>
    show bt (if bt r n = true then dl_e A o r n ||| A n else dl_e A o r n) q = true ↔ _
    by_cases h : bt r n = true
    · rw [if_pos h, b_or, Bool.or_eq_true, ih]
      constructor
      · rintro ((z | ⟨s, h1, h2, h3⟩) | z)
        · exact Or.inl z
        · exact Or.inr ⟨s, by omega, h2, h3⟩
        · exact Or.inr ⟨n, by omega, h, z⟩
      · rintro (z | ⟨s, h1, h2, h3⟩)
        · exact Or.inl (Or.inl z)
        · rcases Nat.lt_or_ge s n with w | w
          · exact Or.inl (Or.inr ⟨s, w, h2, h3⟩)
          · have e0 : s = n := by omega
            subst e0
            exact Or.inr h3
    · rw [if_neg h, ih]
      constructor
      · rintro (z | ⟨s, h1, h2, h3⟩)
        · exact Or.inl z
        · exact Or.inr ⟨s, by omega, h2, h3⟩
      · rintro (z | ⟨s, h1, h2, h3⟩)
        · exact Or.inl z
        · rcases Nat.lt_or_ge s n with w | w
          · exact Or.inr ⟨s, w, h2, h3⟩
          · have e0 : s = n := by omega
            subst e0
            exact absurd h2 h
/-- closure cells and closure rows say the same -/
def dl_CA (P : Nat) (C A : Nat → Int32) : Prop := ∀ i j, i < P → j < P → (¬ C (i * 8 + j) = 0 ↔ bt (A j) i = true)
/-- q is an effective reader, by the reference's cells -/
def dl_in (P : Nat) (C : Nat → Int32) (o : Nat) (r : Int32) (q : Nat) : Prop := ¬ C (q * 8 + o) = 0 ∨ ∃ s, s < P ∧ bt r s = true ∧ ¬ C (q * 8 + s) = 0
theorem dl_in_e {P : Nat} {C A : Nat → Int32} {o q : Nat} {r : Int32} (h : dl_CA P C A) (ho : o < P) (hq : q < P) : dl_in P C o r q ↔ bt (dl_e A o r P) q = true := by
  rw [dl_eb]
  unfold dl_in
  rw [h q o hq ho]
  constructor
  · rintro (z | ⟨s, h1, h2, h3⟩)
    · exact Or.inl z
    · exact Or.inr ⟨s, h1, h2, (h q s hq h1).mp h3⟩
  · rintro (z | ⟨s, h1, h2, h3⟩)
    · exact Or.inl z
    · exact Or.inr ⟨s, h1, h2, (h q s hq h1).mpr h3⟩
theorem dl_e_P {P : Nat} {D A : Nat → Int32} {o q : Nat} {r : Int32} (h : dl_A P D A) (ho : o < P) (hb : bt (dl_e A o r P) q = true) : q < P := by
  rcases (dl_eb A o r q P).mp hb with z | ⟨s, h1, h2, h3⟩
  · exact ((h o ho q).mp z).1
  · exact ((h s h1 q).mp h3).1
/-- the mask that the reference builds is the component's -/
theorem dl_mask {P : Nat} {D C A : Nat → Int32} {o : Nat} {r m : Int32} (hA : dl_A P D A) (h : dl_CA P C A) (ho : o < P) (hm : ∀ i, i < 32 → (bt m i = true ↔ i < P ∧ dl_in P C o r i)) : m = dl_e A o r P := by
  apply b_ext
  intro i hi
  by_cases z : bt (dl_e A o r P) i = true
  · have hp := dl_e_P hA ho z
    rw [z, (hm i hi).mpr ⟨hp, (dl_in_e h ho hp).mpr z⟩]
  · rw [dl_nf z, dl_nf (fun w => z ((dl_in_e h ho ((hm i hi).mp w).1).mp ((hm i hi).mp w).2))]
end
section
/-! the component's private methods, each with a general post -/
section
variable {xP xC xA xL xO xQ xS xK yP yC yA yL yQ yS yK yD : Int32} {dA aA po st jm pl op el so ip va ov oc ed cl py sk sa sb sc yi yv yo yn jl pc sv bk be : Nat → Int32}
def dl_zn (f : Nat → Int32) : Nat → (Nat → Int32)
  | 0 => f
  | n + 1 => upd (dl_zn f n) n 0
/-- the first n cells by f, the others by g -/
def dl_row (f g : Nat → Int32) (n : Nat) : Nat → Int32 := fun x => if x < n then f x else g x
theorem dl_row_0 (f g : Nat → Int32) : dl_row f g 0 = g := by
  funext x
  exact if_neg (by omega)
theorem dl_row_s {f g : Nat → Int32} {n : Nat} {z : Int32} (h : z = f n) : upd (dl_row f g n) n z = dl_row f g (n + 1) := by
  funext x
  unfold upd dl_row
  by_cases e : x = n
  · subst e
    rw [if_pos rfl, if_pos (by omega), h]
  · rw [if_neg e]
    by_cases l : x < n
    · rw [if_pos l, if_pos (by omega)]
    · rw [if_neg l, if_neg (by omega)]
theorem dl_row_k {f g : Nat → Int32} {n : Nat} (h : g n = f n) : dl_row f g n = dl_row f g (n + 1) := by
  funext x
  unfold dl_row
  by_cases l : x < n
  · rw [if_pos l, if_pos (by omega)]
  · rw [if_neg l]
    by_cases e : x = n
    · subst e
      rw [if_pos (by omega), h]
    · rw [if_neg (by omega)]
theorem dl_row_n (f g : Nat → Int32) (n : Nat) : dl_row f g n n = g n := if_neg (by omega)
theorem dl_row_l {f g : Nat → Int32} {n x : Nat} (h : x < n) : dl_row f g n x = f x := if_pos h
theorem dl_m8 (a b : Nat) : nI a * 8 + nI b = nI (a * 8 + b) := by
  rw [← nI_add, ← pk_mul]
  rfl
theorem dl_m16 (a b : Nat) : nI a * 16 + nI b = nI (a * 16 + b) := by
  rw [← nI_add, ← pk_mul]
  rfl
theorem dl_m4 (a : Nat) : nI a * 4 = nI (a * 4) := by
  rw [← pk_mul]
  rfl
theorem dl_c {n : Nat} (h : n < 2 ^ 31) : (nI n).toNatClampNeg = n := nI_clamp h
theorem dx_contains {post : Int32 → Prop} {x : Int32} {p : Nat} (hp : p < 32) (h1 : bt x p = true → post 1) (h0 : bt x p = false → post 0) : wpX_contains post x (nI p) := br_c (fun h => h0 ((dl_bz hp).mp h)) (fun h => h1 (dl_nt (fun w => h ((dl_bz hp).mpr w))))
theorem dx_empty {post : SX → Prop} (h : post (xP, xC, xA, xL, xO, xQ, xS, xK, dA, aA, po, st, jm, pl, op, el, so, ip, va, ov, dl_zn oc 4)) : wpX_emptyChannels post (xP, xC, xA, xL, xO, xQ, xS, xK, dA, aA, po, st, jm, pl, op, el, so, ip, va, ov, oc) := by
  refine loop_0 (fun n i a => wX_emptyChannels_2 post xP xC xA xL xO xQ xS xK n (nI i) dA aA po st jm pl op el so ip va ov a) (fun i a => a = dl_zn oc i) 4 oc rfl ?_ ?_
  · intro n a ha
    subst ha
    exact br_t (nI_le (a := 4) (b := 4) (by omega) (by omega)) h
  · intro n i a hi ha ih
    subst ha
    refine br_f (nI_ge (b := 4) hi (by omega)) ⟨vp_in_nI hi (by omega), nm_r (e' := dl_zn oc (i + 1)) ?_ (nm_r (nI_1 i) (ih _ rfl))⟩
    rw [dl_c (by omega)]
    rfl
theorem dx_reset {post : SX → Prop} (h : post (xP, xC, xA, xL, xO, 0, 0, -1, dA, aA, po, st, jm, pl, op, el, so, ip, va, ov, dl_zn oc 4)) : wpX_reset post (xP, xC, xA, xL, xO, xQ, xS, xK, dA, aA, po, st, jm, pl, op, el, so, ip, va, ov, oc) := by
  unfold wpX_reset
  exact dx_empty h
theorem dl_Wa {A0 a : Nat → Int32} {m i : Nat} (ha : ∀ x, a x = if x < i then dl_W A0 m x else A0 x) : a i = A0 i ∧ a m = A0 m := by
  refine ⟨by rw [ha i, if_neg (by omega)], ?_⟩
  rw [ha m]
  by_cases h : m < i
  · rw [if_pos h, dl_Wm]
  · rw [if_neg h]
theorem dx_c44 {post : SX → Prop} {J : Int32 → (Nat → Int32) → (Nat → Int32) → (Nat → Int32) → (Nat → Int32) → (Nat → Int32) → (Nat → Int32) → (Nat → Int32) → (Nat → Int32) → (Nat → Int32) → (Nat → Int32) → (Nat → Int32) → (Nat → Int32) → (Nat → Int32) → Prop} {P m : Nat} (hP : P ≤ 8) (hm : m < P) (h : ∀ A', (∀ x, x < P → A' x = dl_W aA m x) → J (nI (m + 1)) dA A' po st jm pl op el so ip va ov oc) : ∃ n, wX_closeActors_44 post J (nI m) (nI P) xC xA xL xO xQ xS xK n 0 dA aA po st jm pl op el so ip va ov oc := by
  refine loop_0 (fun n i a => wX_closeActors_44 post J (nI m) (nI P) xC xA xL xO xQ xS xK n (nI i) dA a po st jm pl op el so ip va ov oc) (fun i a => ∀ x, a x = if x < i then dl_W aA m x else aA x) P aA ?_ ?_ ?_
  · intro x
    exact (if_neg (by omega)).symm
  · intro n a ha
    exact br_t (nI_le (Nat.le_refl _) (by omega)) (nm_r (nI_1 m) (h a (fun x hx => (ha x).trans (if_pos hx))))
  · intro n i a hi ha ih
    obtain ⟨e1, e2⟩ := dl_Wa ha
    have v : vp_in (nI i) 8 := vp_in_nI (by omega) (by omega)
    refine br_f (nI_ge hi (by omega)) ⟨v, ?_⟩
    rw [dl_c (show i < 2 ^ 31 by omega), dl_c (show m < 2 ^ 31 by omega), e1, e2]
    refine dx_contains (by omega) (fun hb => ?_) (fun hb => ?_)
    · refine br_f (by decide) ⟨v, vp_in_nI (by omega) (by omega), v, nm_e (nm_r (nI_1 i) (ih _ ?_))⟩
      intro x
      by_cases e : x = i
      · subst e
        rw [pk_us, if_pos (by omega)]
        exact (if_pos hb).symm
      · rw [pk_un e, ha x]
        by_cases l : x < i
        · rw [if_pos l, if_pos (by omega)]
        · rw [if_neg l, if_neg (by omega)]
    · refine br_t rfl (nm_r (nI_1 i) (ih _ ?_))
      intro x
      rw [ha x]
      by_cases e : x = i
      · subst e
        rw [if_neg (by omega), if_pos (by omega)]
        exact (if_neg (by rw [hb]; decide)).symm
      · by_cases l : x < i
        · rw [if_pos l, if_pos (by omega)]
        · rw [if_neg l, if_neg (by omega)]
theorem dx_c34 {post : SX → Prop} {P : Nat} (hP : P ≤ 8) (h : ∀ A', dl_A P dA A' → post (nI P, xC, xA, xL, xO, xQ, xS, xK, dA, A', po, st, jm, pl, op, el, so, ip, va, ov, oc)) (V : dl_V P dA aA 0) : ∃ n, wX_closeActors_34 post (nI P) xC xA xL xO xQ xS xK n 0 dA aA po st jm pl op el so ip va ov oc := by
  refine loop_0 (fun n m a => wX_closeActors_34 post (nI P) xC xA xL xO xQ xS xK n (nI m) dA a po st jm pl op el so ip va ov oc) (fun m a => dl_V P dA a m) P aA V ?_ ?_
  · intro n a ha
    exact br_t (nI_le (Nat.le_refl _) (by omega)) (h a (dl_Vf ha))
  · intro n m a hm V ih
    exact br_f (nI_ge hm (by omega)) (dx_c44 hP hm (fun A' hA => ih A' (dl_Vs hm V hA)))
theorem dx_close {post : SX → Prop} {P : Nat} (hP : P ≤ 8) (hD : ∀ p, p < P → ∀ q, bt (dA p) q = true → q < P) (h : ∀ A', dl_A P dA A' → post (nI P, xC, xA, xL, xO, xQ, xS, xK, dA, A', po, st, jm, pl, op, el, so, ip, va, ov, oc)) : wpX_closeActors post (nI P, xC, xA, xL, xO, xQ, xS, xK, dA, aA, po, st, jm, pl, op, el, so, ip, va, ov, oc) := by
  refine loop_0 (fun n i a => wX_closeActors_2 post (nI P) xC xA xL xO xQ xS xK n (nI i) dA a po st jm pl op el so ip va ov oc) (fun i a => ∀ x, x < i → a x = dA x ||| ((1 : Int32) <<< (nI x &&& 31))) P aA (fun x hx => absurd hx (by omega)) ?_ ?_
  · intro n a ha
    exact br_t (nI_le (Nat.le_refl _) (by omega)) (dx_c34 hP h (dl_V0 (by omega) hD ha))
  · intro n i a hi ha ih
    have v : vp_in (nI i) 8 := vp_in_nI (by omega) (by omega)
    refine br_f (nI_ge hi (by omega)) ⟨v, v, nm_e (nm_r (nI_1 i) (ih _ ?_))⟩
    rw [dl_c (show i < 2 ^ 31 by omega)]
    intro x hx
    by_cases e : x = i
    · subst e
      rw [pk_us]
    · rw [pk_un e]
      exact ha x (by omega)
theorem dx_eff {post : Int32 → Prop} {P o : Nat} {r : Int32} (hP : P ≤ 8) (ho : o < P) (h : post (dl_e aA o r P)) : wpX_effectiveReaders post (nI P, xC, xA, xL, xO, xQ, xS, xK, dA, aA, po, st, jm, pl, op, el, so, ip, va, ov, oc) (nI o) r := by
  unfold wpX_effectiveReaders
  refine ⟨vp_in_nI (by omega) (by omega), nm_r (e' := dl_e aA o r 0) (by rw [dl_c (by omega)]; rfl) ?_⟩
  refine loop_0 (fun n i s => wX_effectiveReaders_10 post r (nI P) xC xA xL xO xQ xS xK dA aA po st jm pl op el so ip va ov oc n s (nI i)) (fun i s => s = dl_e aA o r i) P _ rfl ?_ ?_
  · intro n s hs
    subst hs
    exact br_t (nI_le (Nat.le_refl _) (by omega)) h
  · intro n i s hi hs ih
    subst hs
    refine br_f (nI_ge hi (by omega)) (br_c (fun hb => ?_) (fun hb => ?_))
    · refine nm_r (nI_1 i) (ih _ ?_)
      exact (if_neg (by rw [(dl_bz (by omega)).mp hb]; decide)).symm
    · refine ⟨vp_in_nI (by omega) (by omega), nm_e (nm_r (nI_1 i) (ih _ ?_))⟩
      rw [dl_c (show i < 2 ^ 31 by omega)]
      exact (if_pos (dl_nt (fun w => hb ((dl_bz (by omega)).mpr w)))).symm
/-! reading and flowing: one pure meaning, for both sides -/
def dl_rd (P : Nat) (A po : Nat → Int32) (t p : Nat) : Prop := ∀ o, o < P → ¬ po (t * 8 + o) = -1 → bt (dl_e A o (po (t * 8 + o)) P) p = true
def dl_kp (P : Nat) (A po : Nat → Int32) (t o : Nat) (r : Int32) : Prop := ∃ k, k < P ∧ ¬ po (t * 8 + k) = -1 ∧ bt (A o) k = true ∧ (dl_e A k (po (t * 8 + k)) P &&& (dl_e A o r P ^^^ (-1))) = 0
def dl_fl (P : Nat) (A po so : Nat → Int32) (t : Nat) (d : Int32) : Prop := ∀ o, o < P → ¬ so o = -1 → (A o &&& d) = 0 → dl_kp P A po t o (so o)
theorem dx_rd {post : Int32 → Prop} {P t p : Nat} (hP : P ≤ 8) (ht : t < 20) (hp : p < P) (h1 : dl_rd P aA po t p → post 1) (h0 : ¬ dl_rd P aA po t p → post 0) : ∃ n, wX_canRead_19 post (nI p) (nI t) (nI P) xC xA xL xO xQ xS xK dA aA po st jm pl op el so ip va ov oc n 0 := by
  refine loop_0 (fun n i (_ : Unit) => wX_canRead_19 post (nI p) (nI t) (nI P) xC xA xL xO xQ xS xK dA aA po st jm pl op el so ip va ov oc n (nI i)) (fun i _ => ∀ o, o < i → ¬ po (t * 8 + o) = -1 → bt (dl_e aA o (po (t * 8 + o)) P) p = true) P () (fun o ho => absurd ho (by omega)) ?_ ?_
  · intro n _ ha
    exact br_t (nI_le (Nat.le_refl _) (by omega)) (h1 ha)
  · intro n i _ hi ha ih
    have nx : ∀ z : ¬ po (t * 8 + i) = -1 → bt (dl_e aA i (po (t * 8 + i)) P) p = true, ∀ o, o < i + 1 → ¬ po (t * 8 + o) = -1 → bt (dl_e aA o (po (t * 8 + o)) P) p = true := by
      intro z o ho
      by_cases e : o = i
      · subst e
        exact z
      · exact ha o (by omega)
    refine br_f (nI_ge hi (by omega)) ?_
    unfold wpX_cell
    rw [dl_m8]
    dsimp only
    rw [dl_c (show t * 8 + i < 2 ^ 31 by omega)]
    refine ⟨vp_in_nI (by omega) (by omega), nm_e (br_c (fun z => nm_r (nI_1 i) (ih () (nx (fun w => absurd z w)))) (fun z => dx_eff hP hi (dx_contains (by omega) (fun hb => br_f (by decide) (nm_r (nI_1 i) (ih () (nx (fun _ => hb))))) (fun hb => br_t rfl (h0 (fun w => ?_))))))⟩
    rw [w i hi z] at hb
    exact absurd hb (by decide)
theorem dx_keeps {post : Int32 → Prop} {P t o : Nat} {r : Int32} (hP : P ≤ 8) (ht : t < 20) (ho : o < P) (h1 : dl_kp P aA po t o r → post 1) (h0 : ¬ dl_kp P aA po t o r → post 0) : wpX_keepsPolicy post (nI P, xC, xA, xL, xO, xQ, xS, xK, dA, aA, po, st, jm, pl, op, el, so, ip, va, ov, oc) (nI t) (nI o) r := by
  unfold wpX_keepsPolicy
  refine dx_eff hP ho ?_
  refine loop_0 (fun n i (_ : Unit) => wX_keepsPolicy_11 post (nI t) (nI o) (dl_e aA o r P) (nI P) xC xA xL xO xQ xS xK dA aA po st jm pl op el so ip va ov oc n (nI i)) (fun i _ => ∀ k, k < i → ¬ (¬ po (t * 8 + k) = -1 ∧ bt (aA o) k = true ∧ (dl_e aA k (po (t * 8 + k)) P &&& (dl_e aA o r P ^^^ (-1))) = 0)) P () (fun o ho => absurd ho (by omega)) ?_ ?_
  · intro n _ ha
    exact br_t (nI_le (Nat.le_refl _) (by omega)) (h0 (fun ⟨k, hk, w⟩ => ha k hk w))
  · intro n i _ hi ha ih
    have nx : ¬ (¬ po (t * 8 + i) = -1 ∧ bt (aA o) i = true ∧ (dl_e aA i (po (t * 8 + i)) P &&& (dl_e aA o r P ^^^ (-1))) = 0) → wX_keepsPolicy_11 post (nI t) (nI o) (dl_e aA o r P) (nI P) xC xA xL xO xQ xS xK dA aA po st jm pl op el so ip va ov oc n (nI (i + 1)) := by
      intro z
      refine ih () (fun k hk => ?_)
      by_cases e : k = i
      · subst e
        exact z
      · exact ha k (by omega)
    refine br_f (nI_ge hi (by omega)) ?_
    unfold wpX_cell
    rw [dl_m8]
    dsimp only
    rw [dl_c (show t * 8 + i < 2 ^ 31 by omega), dl_c (show o < 2 ^ 31 by omega)]
    refine ⟨vp_in_nI (by omega) (by omega), nm_e (br_c (fun z => nm_r (nI_1 i) (nx (fun w => w.1 z))) (fun z => ⟨vp_in_nI (by omega) (by omega), dx_contains (by omega) (fun hb => br_f (by decide) (dx_eff hP hi (br_c (fun y => h1 ⟨i, hi, z, hb, y⟩) (fun y => nm_r (nI_1 i) (nx (fun w => y w.2.2)))))) (fun hb => br_t rfl (nm_r (nI_1 i) (nx (fun w => by rw [hb] at w; exact absurd w.2.1 (by decide)))))⟩))⟩
theorem dx_flows {post : Int32 → Prop} {P t : Nat} {d : Int32} (hP : P ≤ 8) (ht : t < 20) (h1 : dl_fl P aA po so t d → post 1) (h0 : ¬ dl_fl P aA po so t d → post 0) : wpX_flowsTo post (nI P, xC, xA, xL, xO, xQ, xS, xK, dA, aA, po, st, jm, pl, op, el, so, ip, va, ov, oc) (nI t) d := by
  refine loop_0 (fun n i (_ : Unit) => wX_flowsTo_2 post (nI t) d (nI P) xC xA xL xO xQ xS xK dA aA po st jm pl op el so ip va ov oc n (nI i)) (fun i _ => ∀ o, o < i → ¬ so o = -1 → (aA o &&& d) = 0 → dl_kp P aA po t o (so o)) P () (fun o ho => absurd ho (by omega)) ?_ ?_
  · intro n _ ha
    exact br_t (nI_le (Nat.le_refl _) (by omega)) (h1 ha)
  · intro n i _ hi ha ih
    have v : vp_in (nI i) 8 := vp_in_nI (by omega) (by omega)
    have nx : (¬ so i = -1 → (aA i &&& d) = 0 → dl_kp P aA po t i (so i)) → wX_flowsTo_2 post (nI t) d (nI P) xC xA xL xO xQ xS xK dA aA po st jm pl op el so ip va ov oc n (nI (i + 1)) := by
      intro z
      refine ih () (fun k hk => ?_)
      by_cases e : k = i
      · subst e
        exact z
      · exact ha k (by omega)
    have c := dl_c (show i < 2 ^ 31 by omega)
    refine br_f (nI_ge hi (by omega)) ⟨v, ?_⟩
    rw [c]
    refine br_c (fun z => ?_) (fun z => ⟨v, br_c (fun y => ?_) (fun y => ?_)⟩)
    · exact br_t rfl (nm_r (nI_1 i) (nx (fun w => absurd z w)))
    · refine br_f (by decide) ⟨v, ?_⟩
      rw [c]
      exact dx_keeps hP ht hi (fun k => br_f (by decide) (nm_r (nI_1 i) (nx (fun _ _ => k)))) (fun k => br_t rfl (h0 (fun w => k (w i hi z y))))
    · exact br_t rfl (nm_r (nI_1 i) (nx (fun _ w => absurd w y)))
/-! rows of labels -/
/-- the source row: the pc, the pc joined with a target, a target, the pc joined with two targets -/
def dl_S1 (pl so : Nat → Int32) (D : Nat) : Nat → Int32 := dl_row (fun o => pl (D * 8 + o)) so 8
def dl_St (po so : Nat → Int32) (t : Nat) : Nat → Int32 := dl_row (fun o => po (t * 8 + o)) so 8
def dl_Sj (po so : Nat → Int32) (t : Nat) : Nat → Int32 := dl_row (fun o => so o &&& po (t * 8 + o)) so 8
def dl_S2 (pl po so : Nat → Int32) (D t : Nat) : Nat → Int32 := dl_Sj po (dl_S1 pl so D) t
theorem dx_takePc {post : SX → Prop} {D : Nat} (hD : D ≤ 8) (h : post (xP, xC, xA, xL, nI D, xQ, xS, xK, dA, aA, po, st, jm, pl, op, el, dl_S1 pl so D, ip, va, ov, oc)) : wpX_takePc post (xP, xC, xA, xL, nI D, xQ, xS, xK, dA, aA, po, st, jm, pl, op, el, so, ip, va, ov, oc) := by
  refine loop_0 (fun n i a => wX_takePc_2 post xP xC xA xL (nI D) xQ xS xK n (nI i) dA aA po st jm pl op el a ip va ov oc) (fun i a => a = dl_row (fun o => pl (D * 8 + o)) so i) 8 so (dl_row_0 _ _).symm ?_ ?_
  · intro n a ha
    subst ha
    exact br_t (nI_le (a := 8) (b := 8) (by omega) (by omega)) h
  · intro n i a hi ha ih
    subst ha
    refine br_f (nI_ge (b := 8) hi (by omega)) ?_
    unfold wpX_cell
    rw [dl_m8]
    dsimp only
    rw [dl_c (show D * 8 + i < 2 ^ 31 by omega), dl_c (show i < 2 ^ 31 by omega)]
    exact ⟨vp_in_nI (by omega) (by omega), vp_in_nI (by omega) (by omega), nm_e (nm_r (nI_1 i) (ih _ (dl_row_s rfl)))⟩
theorem dx_takeT {post : SX → Prop} {t : Nat} (ht : t < 20) (h : post (xP, xC, xA, xL, xO, xQ, xS, xK, dA, aA, po, st, jm, pl, op, el, dl_St po so t, ip, va, ov, oc)) : wpX_takeTarget post (xP, xC, xA, xL, xO, xQ, xS, xK, dA, aA, po, st, jm, pl, op, el, so, ip, va, ov, oc) (nI t) := by
  refine loop_0 (fun n i a => wX_takeTarget_2 post (nI t) xP xC xA xL xO xQ xS xK n (nI i) dA aA po st jm pl op el a ip va ov oc) (fun i a => a = dl_row (fun o => po (t * 8 + o)) so i) 8 so (dl_row_0 _ _).symm ?_ ?_
  · intro n a ha
    subst ha
    exact br_t (nI_le (a := 8) (b := 8) (by omega) (by omega)) h
  · intro n i a hi ha ih
    subst ha
    refine br_f (nI_ge (b := 8) hi (by omega)) ?_
    unfold wpX_cell
    rw [dl_m8]
    dsimp only
    rw [dl_c (show t * 8 + i < 2 ^ 31 by omega), dl_c (show i < 2 ^ 31 by omega)]
    exact ⟨vp_in_nI (by omega) (by omega), vp_in_nI (by omega) (by omega), nm_e (nm_r (nI_1 i) (ih _ (dl_row_s rfl)))⟩
theorem dx_join {post : SX → Prop} {t : Nat} (ht : t < 20) (h : post (xP, xC, xA, xL, xO, xQ, xS, xK, dA, aA, po, st, jm, pl, op, el, dl_Sj po so t, ip, va, ov, oc)) : wpX_joinTarget post (xP, xC, xA, xL, xO, xQ, xS, xK, dA, aA, po, st, jm, pl, op, el, so, ip, va, ov, oc) (nI t) := by
  refine loop_0 (fun n i a => wX_joinTarget_2 post (nI t) xP xC xA xL xO xQ xS xK n (nI i) dA aA po st jm pl op el a ip va ov oc) (fun i a => a = dl_row (fun o => so o &&& po (t * 8 + o)) so i) 8 so (dl_row_0 _ _).symm ?_ ?_
  · intro n a ha
    subst ha
    exact br_t (nI_le (a := 8) (b := 8) (by omega) (by omega)) h
  · intro n i a hi ha ih
    subst ha
    refine br_f (nI_ge (b := 8) hi (by omega)) ⟨vp_in_nI hi (by omega), ?_⟩
    unfold wpX_cell
    rw [dl_m8]
    dsimp only
    rw [dl_c (show t * 8 + i < 2 ^ 31 by omega), dl_c (show i < 2 ^ 31 by omega), dl_row_n]
    exact ⟨vp_in_nI (by omega) (by omega), vp_in_nI (by omega) (by omega), nm_e (nm_r (nI_1 i) (ih _ (dl_row_s rfl)))⟩
/-! blocks -/
def dl_seg (f g : Nat → Int32) (b n : Nat) : Nat → Int32 := fun x => if b ≤ x ∧ x < b + n then f (x - b) else g x
theorem dl_seg_0 (f g : Nat → Int32) (b : Nat) : dl_seg f g b 0 = g := by
  funext x
  exact if_neg (by omega)
theorem dl_seg_s {f g : Nat → Int32} {b n : Nat} {z : Int32} (h : z = f n) : upd (dl_seg f g b n) (b + n) z = dl_seg f g b (n + 1) := by
  funext x
  unfold upd dl_seg
  by_cases e : x = b + n
  · subst e
    rw [if_pos rfl, if_pos (by omega), h, Nat.add_sub_cancel_left]
  · rw [if_neg e]
    by_cases l : b ≤ x ∧ x < b + n
    · rw [if_pos l, if_pos (by omega)]
    · rw [if_neg l, if_neg (by omega)]
theorem dl_seg_i {f g : Nat → Int32} {b n x : Nat} (h : x < n) : dl_seg f g b n (b + x) = f x := by
  unfold dl_seg
  rw [if_pos (by omega), Nat.add_sub_cancel_left]
theorem dl_seg_o {f g : Nat → Int32} {b n x : Nat} (h : x < b) : dl_seg f g b n x = g x := if_neg (by omega)
theorem dx_open {post : Int32 → SX → Prop} {D t i : Nat} (hD : D < 8) (ht : t < 20) (h : post 0 (xP, xC, xA, xL, nI (D + 1), xQ, xS, xK, dA, aA, po, st, jm, dl_seg (dl_S2 pl po so D t) pl ((D + 1) * 8) 8, upd op D (nI i), upd el D (-1), dl_S2 pl po so D t, ip, va, ov, oc)) : wpX_openBlock post (xP, xC, xA, xL, nI D, xQ, xS, xK, dA, aA, po, st, jm, pl, op, el, so, ip, va, ov, oc) (nI i) (nI t) := by
  unfold wpX_openBlock
  refine br_t (nI_lt (b := 8) hD (by omega)) (dx_takePc (by omega) (dx_join ht ?_))
  have c := dl_c (show D < 2 ^ 31 by omega)
  refine ⟨vp_in_nI hD (by omega), nm_r (e' := upd op D (nI i)) (by rw [c]) ⟨vp_in_nI hD (by omega), nm_r (e' := upd el D (-1)) (by rw [c]) (nm_r (nI_1 D) ?_)⟩⟩
  refine loop_0 (fun n k a => wX_openBlock_52 post xP xC xA xL (nI (D + 1)) xQ xS xK n (nI k) dA aA po st jm a (upd op D (nI i)) (upd el D (-1)) (dl_S2 pl po so D t) ip va ov oc) (fun k a => a = dl_seg (dl_S2 pl po so D t) pl ((D + 1) * 8) k) 8 pl (dl_seg_0 _ _ _).symm ?_ ?_
  · intro n a ha
    subst ha
    exact br_t (nI_le (a := 8) (b := 8) (by omega) (by omega)) h
  · intro n k a hk ha ih
    subst ha
    refine br_f (nI_ge (b := 8) hk (by omega)) ?_
    unfold wpX_cell
    rw [dl_m8]
    dsimp only
    rw [dl_c (show (D + 1) * 8 + k < 2 ^ 31 by omega), dl_c (show k < 2 ^ 31 by omega)]
    exact ⟨vp_in_nI (by omega) (by omega), vp_in_nI (by omega) (by omega), nm_e (nm_r (nI_1 k) (ih _ (dl_seg_s rfl)))⟩
theorem dx_open8 {post : Int32 → SX → Prop} {D t i : Nat} (hD : 8 ≤ D) (hD2 : D < 2 ^ 31) (h : post 2 (xP, xC, xA, xL, nI D, xQ, xS, xK, dA, aA, po, st, jm, pl, op, el, so, ip, va, ov, oc)) : wpX_openBlock post (xP, xC, xA, xL, nI D, xQ, xS, xK, dA, aA, po, st, jm, pl, op, el, so, ip, va, ov, oc) (nI i) (nI t) := by
  unfold wpX_openBlock
  exact br_f (nI_nlt (b := 8) hD hD2) h
theorem dx_isWhile {post : Int32 → Prop} {i : Nat} (hi : i < 64) (h1 : st (i * 4) = 11 → post 1) (h0 : ¬ st (i * 4) = 11 → post 0) : wpX_isWhile post (xP, xC, xA, xL, xO, xQ, xS, xK, dA, aA, po, st, jm, pl, op, el, so, ip, va, ov, oc) (nI i) := by
  unfold wpX_isWhile
  rw [dl_m4, dl_c (show i * 4 < 2 ^ 31 by omega)]
  exact ⟨vp_in_nI (by omega) (by omega), br_c h1 h0⟩
theorem dx_split0 {post : Int32 → SX → Prop} {i : Nat} (h : post 1 (xP, xC, xA, xL, nI 0, xQ, xS, xK, dA, aA, po, st, jm, pl, op, el, so, ip, va, ov, oc)) : wpX_splitBlock post (xP, xC, xA, xL, nI 0, xQ, xS, xK, dA, aA, po, st, jm, pl, op, el, so, ip, va, ov, oc) (nI i) := by
  unfold wpX_splitBlock
  exact br_t nI_0 h
theorem dx_split {post : Int32 → SX → Prop} {D o i : Nat} (hD : D < 8) (ho : op D = nI o) (ho64 : o < 64) (h1 : (st (o * 4) = 11 ∨ ¬ el D = -1) → post 1 (xP, xC, xA, xL, nI (D + 1), xQ, xS, xK, dA, aA, po, st, jm, pl, op, el, so, ip, va, ov, oc)) (h0 : ¬ st (o * 4) = 11 → el D = -1 → post 0 (xP, xC, xA, xL, nI (D + 1), xQ, xS, xK, dA, aA, po, st, jm, pl, op, upd el D (nI i), so, ip, va, ov, oc)) : wpX_splitBlock post (xP, xC, xA, xL, nI (D + 1), xQ, xS, xK, dA, aA, po, st, jm, pl, op, el, so, ip, va, ov, oc) (nI i) := by
  unfold wpX_splitBlock
  have v : vp_in (nI D) 8 := vp_in_nI hD (by omega)
  refine br_f (nI_ne0 (by omega) (by omega)) (nm_r (nI_pred D) ⟨v, ?_⟩)
  rw [dl_c (show D < 2 ^ 31 by omega), ho]
  exact dx_isWhile ho64 (fun z => br_f (by decide) (h1 (Or.inl z))) (fun z => br_t rfl ⟨v, br_c (fun y => ⟨v, nm_e (h0 z y)⟩) (fun y => h1 (Or.inr y))⟩)
theorem dx_clb0 {post : Int32 → SX → Prop} {i : Nat} (h : post 1 (xP, xC, xA, xL, nI 0, xQ, xS, xK, dA, aA, po, st, jm, pl, op, el, so, ip, va, ov, oc)) : wpX_closeBlock post (xP, xC, xA, xL, nI 0, xQ, xS, xK, dA, aA, po, st, jm, pl, op, el, so, ip, va, ov, oc) (nI i) := by
  unfold wpX_closeBlock
  exact br_t nI_0 h
/-- the jumps that closing a block writes -/
def dl_j1 (jm : Nat → Int32) (o i : Nat) (z : Int32) : Nat → Int32 := upd (upd jm o (nI (i + 1))) i z
def dl_j2 (jm : Nat → Int32) (o m i : Nat) (z : Int32) : Nat → Int32 := upd (upd (dl_j1 jm o i z) o (nI (m + 1))) m (nI (i + 1))
theorem dx_clb {post : Int32 → SX → Prop} {D o i : Nat} (hD : D < 8) (hi : i < 64) (ho : op D = nI o) (ho64 : o < 64) (h : el D = -1 → post 0 (xP, xC, xA, xL, nI D, xQ, xS, xK, dA, aA, po, st, dl_j1 jm o i (if st (o * 4) = 11 then nI o else nI (i + 1)), pl, op, el, so, ip, va, ov, oc)) (hm : ∀ m, m < 64 → el D = nI m → post 0 (xP, xC, xA, xL, nI D, xQ, xS, xK, dA, aA, po, st, dl_j2 jm o m i (if st (o * 4) = 11 then nI o else nI (i + 1)), pl, op, el, so, ip, va, ov, oc)) (he : el D = -1 ∨ ∃ m, m < 64 ∧ el D = nI m) : wpX_closeBlock post (xP, xC, xA, xL, nI (D + 1), xQ, xS, xK, dA, aA, po, st, jm, pl, op, el, so, ip, va, ov, oc) (nI i) := by
  unfold wpX_closeBlock
  have v : vp_in (nI D) 8 := vp_in_nI hD (by omega)
  have cD := dl_c (show D < 2 ^ 31 by omega)
  have co := dl_c (show o < 2 ^ 31 by omega)
  have ci := dl_c (show i < 2 ^ 31 by omega)
  refine br_f (nI_ne0 (by omega) (by omega)) (nm_r (nI_pred D) ⟨v, nm_r (e' := nI o) (by rw [cD]; exact ho) ⟨v, nm_r (e' := el D) (by rw [cD]) (nm_r (nI_1 i) ⟨vp_in_nI ho64 (by omega), nm_r (e' := upd jm o (nI (i + 1))) (by rw [co]) ?_⟩)⟩⟩)
  have fin : ∀ z : Int32, z = (if st (o * 4) = 11 then nI o else nI (i + 1)) → wX_closeBlock_71 post (nI o) (el D) (nI (i + 1)) z (nI i) xP xC xA xL (nI D) xQ xS xK dA aA po st (upd jm o (nI (i + 1))) pl op el so ip va ov oc := by
    intro z hz
    subst hz
    unfold wX_closeBlock_71
    refine ⟨vp_in_nI hi (by omega), nm_r (e' := dl_j1 jm o i (if st (o * 4) = 11 then nI o else nI (i + 1))) (by rw [ci]; rfl) (br_c (fun y => h y) (fun y => ?_))⟩
    rcases he with he | ⟨m, hm64, he⟩
    · exact absurd he y
    · rw [he]
      have cm := dl_c (show m < 2 ^ 31 by omega)
      refine ⟨vp_in_nI ho64 (by omega), nm_r (e' := upd (dl_j1 jm o i (if st (o * 4) = 11 then nI o else nI (i + 1))) o (nI (m + 1))) (by rw [co, nI_1]) ⟨vp_in_nI hm64 (by omega), nm_r (e' := dl_j2 jm o m i (if st (o * 4) = 11 then nI o else nI (i + 1))) (by rw [cm]; rfl) (hm m hm64 he)⟩⟩
  exact dx_isWhile ho64 (fun z => br_f (by decide) (fin _ (if_pos z).symm)) (fun z => br_t rfl (fin _ (if_neg z).symm))
/-! one statement of a check, by its kind -/
theorem dl_s0 {i : Nat} (h : i < 64) : vp_in (nI (i * 4)) 256 ∧ (nI (i * 4)).toNatClampNeg = i * 4 := ⟨vp_in_nI (by omega) (by omega), dl_c (by omega)⟩
theorem dl_s1 {i : Nat} (h : i < 64) : vp_in (nI (i * 4) + 1) 256 ∧ (nI (i * 4) + 1).toNatClampNeg = i * 4 + 1 := by
  rw [nI_1]
  exact ⟨vp_in_nI (by omega) (by omega), dl_c (by omega)⟩
theorem dl_s2 {i : Nat} (h : i < 64) : vp_in (nI (i * 4) + 2) 256 ∧ (nI (i * 4) + 2).toNatClampNeg = i * 4 + 2 := by
  rw [show nI (i * 4) + 2 = nI (i * 4 + 2) from nI_add _ 2]
  exact ⟨vp_in_nI (by omega) (by omega), dl_c (by omega)⟩
theorem dl_s3 {i : Nat} (h : i < 64) : vp_in (nI (i * 4) + 3) 256 ∧ (nI (i * 4) + 3).toNatClampNeg = i * 4 + 3 := by
  rw [show nI (i * 4) + 3 = nI (i * 4 + 3) from nI_add _ 3]
  exact ⟨vp_in_nI (by omega) (by omega), dl_c (by omega)⟩
theorem dx_st1 {post : Int32 → SX → Prop} {P D i t : Nat} (hP : P ≤ 8) (hD : D ≤ 8) (hi : i < 64) (hk : st (i * 4) = 1) (ha : st (i * 4 + 1) = nI t) (ht : t < 20) (h0 : dl_fl P aA po (dl_S1 pl so D) t 0 → post 0 (nI P, xC, xA, xL, nI D, xQ, xS, xK, dA, aA, po, st, jm, pl, op, el, dl_S1 pl so D, ip, va, ov, oc)) (h3 : ¬ dl_fl P aA po (dl_S1 pl so D) t 0 → post 3 (nI P, xC, xA, xL, nI D, xQ, xS, xK, dA, aA, po, st, jm, pl, op, el, dl_S1 pl so D, ip, va, ov, oc)) : wpX_statementError post (nI P, xC, xA, xL, nI D, xQ, xS, xK, dA, aA, po, st, jm, pl, op, el, so, ip, va, ov, oc) (nI i) := by
  unfold wpX_statementError
  obtain ⟨v0, c0⟩ := dl_s0 hi
  obtain ⟨v1, c1⟩ := dl_s1 hi
  obtain ⟨v2, c2⟩ := dl_s2 hi
  refine nm_r (dl_m4 i) ⟨v1, nm_r (e' := nI t) (by rw [c1]; exact ha) ⟨v2, nm_r (e' := st (i * 4 + 2)) (by rw [c2]) ⟨v0, nm_r (e' := 1) (by rw [c0]; exact hk) (br_f (by decide) (br_f (by decide) (br_t rfl (dx_takePc hD (dx_flows hP ht (fun z => br_f (by decide) (h0 z)) (fun z => br_t rfl (h3 z)))))))⟩⟩⟩
theorem dx_st2 {post : Int32 → SX → Prop} {P D i t b : Nat} (hP : P ≤ 8) (hD : D ≤ 8) (hi : i < 64) (hk : st (i * 4) = 2) (ha : st (i * 4 + 1) = nI t) (hb : st (i * 4 + 2) = nI b) (ht : t < 20) (hb' : b < 20) (h0 : dl_fl P aA po (dl_S2 pl po so D b) t 0 → post 0 (nI P, xC, xA, xL, nI D, xQ, xS, xK, dA, aA, po, st, jm, pl, op, el, dl_S2 pl po so D b, ip, va, ov, oc)) (h3 : ¬ dl_fl P aA po (dl_S2 pl po so D b) t 0 → post 3 (nI P, xC, xA, xL, nI D, xQ, xS, xK, dA, aA, po, st, jm, pl, op, el, dl_S2 pl po so D b, ip, va, ov, oc)) : wpX_statementError post (nI P, xC, xA, xL, nI D, xQ, xS, xK, dA, aA, po, st, jm, pl, op, el, so, ip, va, ov, oc) (nI i) := by
  unfold wpX_statementError
  obtain ⟨v0, c0⟩ := dl_s0 hi
  obtain ⟨v1, c1⟩ := dl_s1 hi
  obtain ⟨v2, c2⟩ := dl_s2 hi
  refine nm_r (dl_m4 i) ⟨v1, nm_r (e' := nI t) (by rw [c1]; exact ha) ⟨v2, nm_r (e' := nI b) (by rw [c2]; exact hb) ⟨v0, nm_r (e' := 2) (by rw [c0]; exact hk) (br_f (by decide) (br_f (by decide) (br_f (by decide) (br_t rfl (dx_takePc hD (dx_join hb' (dx_flows hP ht (fun z => br_f (by decide) (h0 z)) (fun z => br_t rfl (h3 z)))))))))⟩⟩⟩
theorem dx_st12 {post : Int32 → SX → Prop} {P D i t b : Nat} (hP : P ≤ 8) (hD : D ≤ 8) (hi : i < 64) (hk : st (i * 4) = 12) (ha : st (i * 4 + 1) = nI t) (hb : st (i * 4 + 2) = nI b) (ht : t < 4) (hb' : b < 20) (h0 : dl_fl P aA po (dl_S2 pl po so D b) (16 + t) 0 → post 0 (nI P, xC, xA, xL, nI D, xQ, xS, xK, dA, aA, po, st, jm, pl, op, el, dl_S2 pl po so D b, ip, va, ov, oc)) (h3 : ¬ dl_fl P aA po (dl_S2 pl po so D b) (16 + t) 0 → post 3 (nI P, xC, xA, xL, nI D, xQ, xS, xK, dA, aA, po, st, jm, pl, op, el, dl_S2 pl po so D b, ip, va, ov, oc)) : wpX_statementError post (nI P, xC, xA, xL, nI D, xQ, xS, xK, dA, aA, po, st, jm, pl, op, el, so, ip, va, ov, oc) (nI i) := by
  unfold wpX_statementError
  obtain ⟨v0, c0⟩ := dl_s0 hi
  obtain ⟨v1, c1⟩ := dl_s1 hi
  obtain ⟨v2, c2⟩ := dl_s2 hi
  have e16 : (16 : Int32) + nI t = nI (16 + t) := nI_add 16 t
  refine nm_r (dl_m4 i) ⟨v1, nm_r (e' := nI t) (by rw [c1]; exact ha) ⟨v2, nm_r (e' := nI b) (by rw [c2]; exact hb) ⟨v0, nm_r (e' := 12) (by rw [c0]; exact hk) (br_f (by decide) (br_f (by decide) (br_f (by decide) (br_f (by decide) (br_f (by decide) (br_f (by decide) (br_f (by decide) (br_f (by decide) (br_f (by decide) (br_f (by decide) (br_f (by decide) (br_f (by decide) (br_f (by decide) (br_t rfl (dx_takePc hD (dx_join hb' ?_))))))))))))))))⟩⟩⟩
  show wpX_flowsTo _ _ (16 + nI t) 0
  rw [e16]
  exact dx_flows hP (by omega) (fun z => br_f (by decide) (h0 z)) (fun z => br_t rfl (h3 z))
theorem dx_st226 {post : Int32 → SX → Prop} {P D i t b c : Nat} (hP : P ≤ 8) (hD : D ≤ 8) (hi : i < 64) (hc : st (i * 4 + 3) = nI c) (ht : t < 20) (hb' : b < 20) (hc' : c < 20) (h0 : dl_fl P aA po (dl_Sj po (dl_S2 pl po so D b) c) t 0 → post 0 (nI P, xC, xA, xL, nI D, xQ, xS, xK, dA, aA, po, st, jm, pl, op, el, dl_Sj po (dl_S2 pl po so D b) c, ip, va, ov, oc)) (h3 : ¬ dl_fl P aA po (dl_Sj po (dl_S2 pl po so D b) c) t 0 → post 3 (nI P, xC, xA, xL, nI D, xQ, xS, xK, dA, aA, po, st, jm, pl, op, el, dl_Sj po (dl_S2 pl po so D b) c, ip, va, ov, oc)) : wX_statementError_226 post (nI (i * 4)) (nI t) (nI b) (nI P) xC xA xL (nI D) xQ xS xK dA aA po st jm pl op el so ip va ov oc := by
  unfold wX_statementError_226
  obtain ⟨v3, c3⟩ := dl_s3 hi
  refine dx_takePc hD (dx_join hb' ⟨v3, ?_⟩)
  rw [c3, hc]
  exact dx_join hc' (dx_flows hP ht (fun z => br_f (by decide) (h0 z)) (fun z => br_t rfl (h3 z)))
theorem dx_st3 {post : Int32 → SX → Prop} {P D i t b c : Nat} (hP : P ≤ 8) (hD : D ≤ 8) (hi : i < 64) (hk : st (i * 4) = 3) (ha : st (i * 4 + 1) = nI t) (hb : st (i * 4 + 2) = nI b) (hc : st (i * 4 + 3) = nI c) (ht : t < 20) (hb' : b < 20) (hc' : c < 20) (h0 : dl_fl P aA po (dl_Sj po (dl_S2 pl po so D b) c) t 0 → post 0 (nI P, xC, xA, xL, nI D, xQ, xS, xK, dA, aA, po, st, jm, pl, op, el, dl_Sj po (dl_S2 pl po so D b) c, ip, va, ov, oc)) (h3 : ¬ dl_fl P aA po (dl_Sj po (dl_S2 pl po so D b) c) t 0 → post 3 (nI P, xC, xA, xL, nI D, xQ, xS, xK, dA, aA, po, st, jm, pl, op, el, dl_Sj po (dl_S2 pl po so D b) c, ip, va, ov, oc)) : wpX_statementError post (nI P, xC, xA, xL, nI D, xQ, xS, xK, dA, aA, po, st, jm, pl, op, el, so, ip, va, ov, oc) (nI i) := by
  unfold wpX_statementError
  obtain ⟨v0, c0⟩ := dl_s0 hi
  obtain ⟨v1, c1⟩ := dl_s1 hi
  obtain ⟨v2, c2⟩ := dl_s2 hi
  refine nm_r (dl_m4 i) ⟨v1, nm_r (e' := nI t) (by rw [c1]; exact ha) ⟨v2, nm_r (e' := nI b) (by rw [c2]; exact hb) ⟨v0, nm_r (e' := 3) (by rw [c0]; exact hk) (br_f (by decide) (br_f (by decide) (br_f (by decide) (br_f (by decide) (br_t rfl (dx_st226 hP hD hi hc ht hb' hc' h0 h3))))))⟩⟩⟩
theorem dx_st4 {post : Int32 → SX → Prop} {P D i t b c : Nat} (hP : P ≤ 8) (hD : D ≤ 8) (hi : i < 64) (hk : st (i * 4) = 4) (ha : st (i * 4 + 1) = nI t) (hb : st (i * 4 + 2) = nI b) (hc : st (i * 4 + 3) = nI c) (ht : t < 20) (hb' : b < 20) (hc' : c < 20) (h0 : dl_fl P aA po (dl_Sj po (dl_S2 pl po so D b) c) t 0 → post 0 (nI P, xC, xA, xL, nI D, xQ, xS, xK, dA, aA, po, st, jm, pl, op, el, dl_Sj po (dl_S2 pl po so D b) c, ip, va, ov, oc)) (h3 : ¬ dl_fl P aA po (dl_Sj po (dl_S2 pl po so D b) c) t 0 → post 3 (nI P, xC, xA, xL, nI D, xQ, xS, xK, dA, aA, po, st, jm, pl, op, el, dl_Sj po (dl_S2 pl po so D b) c, ip, va, ov, oc)) : wpX_statementError post (nI P, xC, xA, xL, nI D, xQ, xS, xK, dA, aA, po, st, jm, pl, op, el, so, ip, va, ov, oc) (nI i) := by
  unfold wpX_statementError
  obtain ⟨v0, c0⟩ := dl_s0 hi
  obtain ⟨v1, c1⟩ := dl_s1 hi
  obtain ⟨v2, c2⟩ := dl_s2 hi
  refine nm_r (dl_m4 i) ⟨v1, nm_r (e' := nI t) (by rw [c1]; exact ha) ⟨v2, nm_r (e' := nI b) (by rw [c2]; exact hb) ⟨v0, nm_r (e' := 4) (by rw [c0]; exact hk) (br_f (by decide) (br_f (by decide) (br_f (by decide) (br_f (by decide) (br_f (by decide) (br_t rfl (dx_st226 hP hD hi hc ht hb' hc' h0 h3)))))))⟩⟩⟩
theorem dx_st5 {post : Int32 → SX → Prop} {P D i t b c : Nat} (hP : P ≤ 8) (hD : D ≤ 8) (hi : i < 64) (hk : st (i * 4) = 5) (ha : st (i * 4 + 1) = nI t) (hb : st (i * 4 + 2) = nI b) (hc : st (i * 4 + 3) = nI c) (ht : t < 20) (hb' : b < 20) (hc' : c < 20) (h0 : dl_fl P aA po (dl_Sj po (dl_S2 pl po so D b) c) t 0 → post 0 (nI P, xC, xA, xL, nI D, xQ, xS, xK, dA, aA, po, st, jm, pl, op, el, dl_Sj po (dl_S2 pl po so D b) c, ip, va, ov, oc)) (h3 : ¬ dl_fl P aA po (dl_Sj po (dl_S2 pl po so D b) c) t 0 → post 3 (nI P, xC, xA, xL, nI D, xQ, xS, xK, dA, aA, po, st, jm, pl, op, el, dl_Sj po (dl_S2 pl po so D b) c, ip, va, ov, oc)) : wpX_statementError post (nI P, xC, xA, xL, nI D, xQ, xS, xK, dA, aA, po, st, jm, pl, op, el, so, ip, va, ov, oc) (nI i) := by
  unfold wpX_statementError
  obtain ⟨v0, c0⟩ := dl_s0 hi
  obtain ⟨v1, c1⟩ := dl_s1 hi
  obtain ⟨v2, c2⟩ := dl_s2 hi
  refine nm_r (dl_m4 i) ⟨v1, nm_r (e' := nI t) (by rw [c1]; exact ha) ⟨v2, nm_r (e' := nI b) (by rw [c2]; exact hb) ⟨v0, nm_r (e' := 5) (by rw [c0]; exact hk) (br_f (by decide) (br_f (by decide) (br_f (by decide) (br_f (by decide) (br_f (by decide) (br_f (by decide) (br_t rfl (dx_st226 hP hD hi hc ht hb' hc' h0 h3))))))))⟩⟩⟩
theorem dx_st6 {post : Int32 → SX → Prop} {P D i t b c : Nat} (hP : P ≤ 8) (hD : D ≤ 8) (hi : i < 64) (hk : st (i * 4) = 6) (ha : st (i * 4 + 1) = nI t) (hb : st (i * 4 + 2) = nI b) (hc : st (i * 4 + 3) = nI c) (ht : t < 20) (hb' : b < 20) (hc' : c < 20) (h0 : dl_fl P aA po (dl_Sj po (dl_S2 pl po so D b) c) t 0 → post 0 (nI P, xC, xA, xL, nI D, xQ, xS, xK, dA, aA, po, st, jm, pl, op, el, dl_Sj po (dl_S2 pl po so D b) c, ip, va, ov, oc)) (h3 : ¬ dl_fl P aA po (dl_Sj po (dl_S2 pl po so D b) c) t 0 → post 3 (nI P, xC, xA, xL, nI D, xQ, xS, xK, dA, aA, po, st, jm, pl, op, el, dl_Sj po (dl_S2 pl po so D b) c, ip, va, ov, oc)) : wpX_statementError post (nI P, xC, xA, xL, nI D, xQ, xS, xK, dA, aA, po, st, jm, pl, op, el, so, ip, va, ov, oc) (nI i) := by
  unfold wpX_statementError
  obtain ⟨v0, c0⟩ := dl_s0 hi
  obtain ⟨v1, c1⟩ := dl_s1 hi
  obtain ⟨v2, c2⟩ := dl_s2 hi
  refine nm_r (dl_m4 i) ⟨v1, nm_r (e' := nI t) (by rw [c1]; exact ha) ⟨v2, nm_r (e' := nI b) (by rw [c2]; exact hb) ⟨v0, nm_r (e' := 6) (by rw [c0]; exact hk) (br_f (by decide) (br_f (by decide) (br_f (by decide) (br_f (by decide) (br_f (by decide) (br_f (by decide) (br_f (by decide) (br_t rfl (dx_st226 hP hD hi hc ht hb' hc' h0 h3)))))))))⟩⟩⟩
theorem dx_st7 {post : Int32 → SX → Prop} {P D i t b c : Nat} (hP : P ≤ 8) (hD : D ≤ 8) (hi : i < 64) (hk : st (i * 4) = 7) (ha : st (i * 4 + 1) = nI t) (hb : st (i * 4 + 2) = nI b) (hc : st (i * 4 + 3) = nI c) (ht : t < 20) (hb' : b < 20) (hc' : c < 20) (h0 : dl_fl P aA po (dl_Sj po (dl_S2 pl po so D b) c) t 0 → post 0 (nI P, xC, xA, xL, nI D, xQ, xS, xK, dA, aA, po, st, jm, pl, op, el, dl_Sj po (dl_S2 pl po so D b) c, ip, va, ov, oc)) (h3 : ¬ dl_fl P aA po (dl_Sj po (dl_S2 pl po so D b) c) t 0 → post 3 (nI P, xC, xA, xL, nI D, xQ, xS, xK, dA, aA, po, st, jm, pl, op, el, dl_Sj po (dl_S2 pl po so D b) c, ip, va, ov, oc)) : wpX_statementError post (nI P, xC, xA, xL, nI D, xQ, xS, xK, dA, aA, po, st, jm, pl, op, el, so, ip, va, ov, oc) (nI i) := by
  unfold wpX_statementError
  obtain ⟨v0, c0⟩ := dl_s0 hi
  obtain ⟨v1, c1⟩ := dl_s1 hi
  obtain ⟨v2, c2⟩ := dl_s2 hi
  refine nm_r (dl_m4 i) ⟨v1, nm_r (e' := nI t) (by rw [c1]; exact ha) ⟨v2, nm_r (e' := nI b) (by rw [c2]; exact hb) ⟨v0, nm_r (e' := 7) (by rw [c0]; exact hk) (br_f (by decide) (br_f (by decide) (br_f (by decide) (br_f (by decide) (br_f (by decide) (br_f (by decide) (br_f (by decide) (br_f (by decide) (br_t rfl (dx_st226 hP hD hi hc ht hb' hc' h0 h3))))))))))⟩⟩⟩
theorem dx_st13 {post : Int32 → SX → Prop} {P D i t b : Nat} (hP : P ≤ 8) (hD : D ≤ 8) (hi : i < 64) (hk : st (i * 4) = 13) (ha : st (i * 4 + 1) = nI t) (hb : st (i * 4 + 2) = nI b) (ht : t < 20) (hb' : b < 20) (h3 : ¬ dl_fl P aA po (dl_S1 pl so D) t 0 → post 3 (nI P, xC, xA, xL, nI D, xQ, xS, xK, dA, aA, po, st, jm, pl, op, el, dl_S1 pl so D, ip, va, ov, oc)) (h4 : dl_fl P aA po (dl_S1 pl so D) t 0 → ¬ dl_fl P aA po (dl_St po (dl_S1 pl so D) b) t xA → post 4 (nI P, xC, xA, xL, nI D, xQ, xS, xK, dA, aA, po, st, jm, pl, op, el, dl_St po (dl_S1 pl so D) b, ip, va, ov, oc)) (h0 : dl_fl P aA po (dl_S1 pl so D) t 0 → dl_fl P aA po (dl_St po (dl_S1 pl so D) b) t xA → post 0 (nI P, xC, xA, xL, nI D, xQ, xS, xK, dA, aA, po, st, jm, pl, op, el, dl_St po (dl_S1 pl so D) b, ip, va, ov, oc)) : wpX_statementError post (nI P, xC, xA, xL, nI D, xQ, xS, xK, dA, aA, po, st, jm, pl, op, el, so, ip, va, ov, oc) (nI i) := by
  unfold wpX_statementError
  obtain ⟨v0, c0⟩ := dl_s0 hi
  obtain ⟨v1, c1⟩ := dl_s1 hi
  obtain ⟨v2, c2⟩ := dl_s2 hi
  refine nm_r (dl_m4 i) ⟨v1, nm_r (e' := nI t) (by rw [c1]; exact ha) ⟨v2, nm_r (e' := nI b) (by rw [c2]; exact hb) ⟨v0, nm_r (e' := 13) (by rw [c0]; exact hk) (br_f (by decide) (br_f (by decide) (br_f (by decide) (br_f (by decide) (br_f (by decide) (br_f (by decide) (br_f (by decide) (br_f (by decide) (br_f (by decide) (br_f (by decide) (br_f (by decide) (br_f (by decide) (br_f (by decide) (br_f (by decide) (br_t rfl (dx_takePc hD (dx_flows hP ht (fun z => br_f (by decide) (dx_takeT hb' (dx_flows hP ht (fun y => br_f (by decide) (h0 z y)) (fun y => br_t rfl (h4 z y))))) (fun z => br_t rfl (h3 z)))))))))))))))))))⟩⟩⟩
theorem dx_st8 {post : Int32 → SX → Prop} {D i t : Nat} (hD : D < 8) (hi : i < 64) (hk : st (i * 4) = 8) (ha : st (i * 4 + 1) = nI t) (ht : t < 20) (h : post 0 (xP, xC, xA, xL, nI (D + 1), xQ, xS, xK, dA, aA, po, st, jm, dl_seg (dl_S2 pl po so D t) pl ((D + 1) * 8) 8, upd op D (nI i), upd el D (-1), dl_S2 pl po so D t, ip, va, ov, oc)) : wpX_statementError post (xP, xC, xA, xL, nI D, xQ, xS, xK, dA, aA, po, st, jm, pl, op, el, so, ip, va, ov, oc) (nI i) := by
  unfold wpX_statementError
  obtain ⟨v0, c0⟩ := dl_s0 hi
  obtain ⟨v1, c1⟩ := dl_s1 hi
  obtain ⟨v2, c2⟩ := dl_s2 hi
  refine nm_r (dl_m4 i) ⟨v1, nm_r (e' := nI t) (by rw [c1]; exact ha) ⟨v2, nm_r (e' := st (i * 4 + 2)) (by rw [c2]) ⟨v0, nm_r (e' := 8) (by rw [c0]; exact hk) (br_f (by decide) (br_f (by decide) (br_f (by decide) (br_f (by decide) (br_f (by decide) (br_f (by decide) (br_f (by decide) (br_f (by decide) (br_f (by decide) (br_t rfl (?_)))))))))))⟩⟩⟩
  unfold wX_statementError_96
  exact dx_open hD ht h
theorem dx_st88 {post : Int32 → SX → Prop} {i t : Nat} (hi : i < 64) (hk : st (i * 4) = 8) (ha : st (i * 4 + 1) = nI t) (h : post 2 (xP, xC, xA, xL, nI 8, xQ, xS, xK, dA, aA, po, st, jm, pl, op, el, so, ip, va, ov, oc)) : wpX_statementError post (xP, xC, xA, xL, nI 8, xQ, xS, xK, dA, aA, po, st, jm, pl, op, el, so, ip, va, ov, oc) (nI i) := by
  unfold wpX_statementError
  obtain ⟨v0, c0⟩ := dl_s0 hi
  obtain ⟨v1, c1⟩ := dl_s1 hi
  obtain ⟨v2, c2⟩ := dl_s2 hi
  refine nm_r (dl_m4 i) ⟨v1, nm_r (e' := nI t) (by rw [c1]; exact ha) ⟨v2, nm_r (e' := st (i * 4 + 2)) (by rw [c2]) ⟨v0, nm_r (e' := 8) (by rw [c0]; exact hk) (br_f (by decide) (br_f (by decide) (br_f (by decide) (br_f (by decide) (br_f (by decide) (br_f (by decide) (br_f (by decide) (br_f (by decide) (br_f (by decide) (br_t rfl (?_)))))))))))⟩⟩⟩
  unfold wX_statementError_96
  exact dx_open8 (Nat.le_refl _) (by omega) h
theorem dx_st11 {post : Int32 → SX → Prop} {D i t : Nat} (hD : D < 8) (hi : i < 64) (hk : st (i * 4) = 11) (ha : st (i * 4 + 1) = nI t) (ht : t < 20) (h : post 0 (xP, xC, xA, xL, nI (D + 1), xQ, xS, xK, dA, aA, po, st, jm, dl_seg (dl_S2 pl po so D t) pl ((D + 1) * 8) 8, upd op D (nI i), upd el D (-1), dl_S2 pl po so D t, ip, va, ov, oc)) : wpX_statementError post (xP, xC, xA, xL, nI D, xQ, xS, xK, dA, aA, po, st, jm, pl, op, el, so, ip, va, ov, oc) (nI i) := by
  unfold wpX_statementError
  obtain ⟨v0, c0⟩ := dl_s0 hi
  obtain ⟨v1, c1⟩ := dl_s1 hi
  obtain ⟨v2, c2⟩ := dl_s2 hi
  refine nm_r (dl_m4 i) ⟨v1, nm_r (e' := nI t) (by rw [c1]; exact ha) ⟨v2, nm_r (e' := st (i * 4 + 2)) (by rw [c2]) ⟨v0, nm_r (e' := 11) (by rw [c0]; exact hk) (br_f (by decide) (br_f (by decide) (br_f (by decide) (br_f (by decide) (br_f (by decide) (br_f (by decide) (br_f (by decide) (br_f (by decide) (br_f (by decide) (br_f (by decide) (br_f (by decide) (br_f (by decide) (br_t rfl (?_))))))))))))))⟩⟩⟩
  unfold wX_statementError_96
  exact dx_open hD ht h
theorem dx_st118 {post : Int32 → SX → Prop} {i t : Nat} (hi : i < 64) (hk : st (i * 4) = 11) (ha : st (i * 4 + 1) = nI t) (h : post 2 (xP, xC, xA, xL, nI 8, xQ, xS, xK, dA, aA, po, st, jm, pl, op, el, so, ip, va, ov, oc)) : wpX_statementError post (xP, xC, xA, xL, nI 8, xQ, xS, xK, dA, aA, po, st, jm, pl, op, el, so, ip, va, ov, oc) (nI i) := by
  unfold wpX_statementError
  obtain ⟨v0, c0⟩ := dl_s0 hi
  obtain ⟨v1, c1⟩ := dl_s1 hi
  obtain ⟨v2, c2⟩ := dl_s2 hi
  refine nm_r (dl_m4 i) ⟨v1, nm_r (e' := nI t) (by rw [c1]; exact ha) ⟨v2, nm_r (e' := st (i * 4 + 2)) (by rw [c2]) ⟨v0, nm_r (e' := 11) (by rw [c0]; exact hk) (br_f (by decide) (br_f (by decide) (br_f (by decide) (br_f (by decide) (br_f (by decide) (br_f (by decide) (br_f (by decide) (br_f (by decide) (br_f (by decide) (br_f (by decide) (br_f (by decide) (br_f (by decide) (br_t rfl (?_))))))))))))))⟩⟩⟩
  unfold wX_statementError_96
  exact dx_open8 (Nat.le_refl _) (by omega) h
theorem dx_st90 {post : Int32 → SX → Prop} {i : Nat} (hi : i < 64) (hk : st (i * 4) = 9) (h : post 1 (xP, xC, xA, xL, nI 0, xQ, xS, xK, dA, aA, po, st, jm, pl, op, el, so, ip, va, ov, oc)) : wpX_statementError post (xP, xC, xA, xL, nI 0, xQ, xS, xK, dA, aA, po, st, jm, pl, op, el, so, ip, va, ov, oc) (nI i) := by
  unfold wpX_statementError
  obtain ⟨v0, c0⟩ := dl_s0 hi
  obtain ⟨v1, c1⟩ := dl_s1 hi
  obtain ⟨v2, c2⟩ := dl_s2 hi
  exact nm_r (dl_m4 i) ⟨v1, nm_e ⟨v2, nm_e ⟨v0, nm_r (e' := 9) (by rw [c0]; exact hk) (br_f (by decide) (br_f (by decide) (br_f (by decide) (br_f (by decide) (br_f (by decide) (br_f (by decide) (br_f (by decide) (br_f (by decide) (br_f (by decide) (br_f (by decide) (br_t rfl (dx_split0 h))))))))))))⟩⟩⟩
theorem dx_st9 {post : Int32 → SX → Prop} {D o i : Nat} (hD : D < 8) (ho : op D = nI o) (ho64 : o < 64) (hi : i < 64) (hk : st (i * 4) = 9) (h1 : (st (o * 4) = 11 ∨ ¬ el D = -1) → post 1 (xP, xC, xA, xL, nI (D + 1), xQ, xS, xK, dA, aA, po, st, jm, pl, op, el, so, ip, va, ov, oc)) (h0 : ¬ st (o * 4) = 11 → el D = -1 → post 0 (xP, xC, xA, xL, nI (D + 1), xQ, xS, xK, dA, aA, po, st, jm, pl, op, upd el D (nI i), so, ip, va, ov, oc)) : wpX_statementError post (xP, xC, xA, xL, nI (D + 1), xQ, xS, xK, dA, aA, po, st, jm, pl, op, el, so, ip, va, ov, oc) (nI i) := by
  unfold wpX_statementError
  obtain ⟨v0, c0⟩ := dl_s0 hi
  obtain ⟨v1, c1⟩ := dl_s1 hi
  obtain ⟨v2, c2⟩ := dl_s2 hi
  exact nm_r (dl_m4 i) ⟨v1, nm_e ⟨v2, nm_e ⟨v0, nm_r (e' := 9) (by rw [c0]; exact hk) (br_f (by decide) (br_f (by decide) (br_f (by decide) (br_f (by decide) (br_f (by decide) (br_f (by decide) (br_f (by decide) (br_f (by decide) (br_f (by decide) (br_f (by decide) (br_t rfl (dx_split hD ho ho64 h1 h0))))))))))))⟩⟩⟩
theorem dx_st100 {post : Int32 → SX → Prop} {i : Nat} (hi : i < 64) (hk : st (i * 4) = 10) (h : post 1 (xP, xC, xA, xL, nI 0, xQ, xS, xK, dA, aA, po, st, jm, pl, op, el, so, ip, va, ov, oc)) : wpX_statementError post (xP, xC, xA, xL, nI 0, xQ, xS, xK, dA, aA, po, st, jm, pl, op, el, so, ip, va, ov, oc) (nI i) := by
  unfold wpX_statementError
  obtain ⟨v0, c0⟩ := dl_s0 hi
  obtain ⟨v1, c1⟩ := dl_s1 hi
  obtain ⟨v2, c2⟩ := dl_s2 hi
  exact nm_r (dl_m4 i) ⟨v1, nm_e ⟨v2, nm_e ⟨v0, nm_r (e' := 10) (by rw [c0]; exact hk) (br_f (by decide) (br_f (by decide) (br_f (by decide) (br_f (by decide) (br_f (by decide) (br_f (by decide) (br_f (by decide) (br_f (by decide) (br_f (by decide) (br_f (by decide) (br_f (by decide) (br_t rfl (dx_clb0 h)))))))))))))⟩⟩⟩
theorem dx_st10 {post : Int32 → SX → Prop} {D o i : Nat} (hD : D < 8) (ho : op D = nI o) (ho64 : o < 64) (hi : i < 64) (hk : st (i * 4) = 10) (h : el D = -1 → post 0 (xP, xC, xA, xL, nI D, xQ, xS, xK, dA, aA, po, st, dl_j1 jm o i (if st (o * 4) = 11 then nI o else nI (i + 1)), pl, op, el, so, ip, va, ov, oc)) (hm : ∀ m, m < 64 → el D = nI m → post 0 (xP, xC, xA, xL, nI D, xQ, xS, xK, dA, aA, po, st, dl_j2 jm o m i (if st (o * 4) = 11 then nI o else nI (i + 1)), pl, op, el, so, ip, va, ov, oc)) (he : el D = -1 ∨ ∃ m, m < 64 ∧ el D = nI m) : wpX_statementError post (xP, xC, xA, xL, nI (D + 1), xQ, xS, xK, dA, aA, po, st, jm, pl, op, el, so, ip, va, ov, oc) (nI i) := by
  unfold wpX_statementError
  obtain ⟨v0, c0⟩ := dl_s0 hi
  obtain ⟨v1, c1⟩ := dl_s1 hi
  obtain ⟨v2, c2⟩ := dl_s2 hi
  exact nm_r (dl_m4 i) ⟨v1, nm_e ⟨v2, nm_e ⟨v0, nm_r (e' := 10) (by rw [c0]; exact hk) (br_f (by decide) (br_f (by decide) (br_f (by decide) (br_f (by decide) (br_f (by decide) (br_f (by decide) (br_f (by decide) (br_f (by decide) (br_f (by decide) (br_f (by decide) (br_f (by decide) (br_t rfl (dx_clb hD hi ho ho64 h hm he)))))))))))))⟩⟩⟩
end
end
section
/-! the blocks of a program: where the scans lead, and what a check knows of them; no print in this part -/
theorem dl_m1n {m : Nat} (h : m < 2 ^ 31) : ¬ (-1 : Int32) = nI m := by
  intro z
  have t := congrArg Int32.toInt z
  rw [nI_toInt h] at t
  have e : (-1 : Int32).toInt = -1 := by decide
  omega
def dl_sc (sk : Nat → Int32) (we : Bool) : Nat → Nat → Nat → Int32
  | 0, _, _ => -1
  | n + 1, j, d => if sk j = 8 ∨ sk j = 11 then dl_sc sk we n (j + 1) (d + 1) else if sk j = 10 then (if d = 0 then (if we = true then -1 else nI j) else dl_sc sk we n (j + 1) (d - 1)) else if sk j = 9 ∧ d = 0 ∧ we = true then nI j else dl_sc sk we n (j + 1) d
def dl_sf (sk : Nat → Int32) (len : Nat) (we : Bool) (j d : Nat) : Int32 := dl_sc sk we (len - j) j d
def dl_sb (sk : Nat → Int32) : Nat → Nat → Int32
  | 0, _ => -1
  | i + 1, d => if sk i = 10 then dl_sb sk i (d + 1) else if sk i = 8 ∨ sk i = 11 then (if d = 0 then nI i else dl_sb sk i (d - 1)) else dl_sb sk i d
theorem dl_sf_u {sk : Nat → Int32} {len : Nat} {we : Bool} {j d : Nat} (h : j < len) : dl_sf sk len we j d = if sk j = 8 ∨ sk j = 11 then dl_sf sk len we (j + 1) (d + 1) else if sk j = 10 then (if d = 0 then (if we = true then -1 else nI j) else dl_sf sk len we (j + 1) (d - 1)) else if sk j = 9 ∧ d = 0 ∧ we = true then nI j else dl_sf sk len we (j + 1) d := by
  unfold dl_sf
  obtain ⟨n, hn⟩ : ∃ n, len - j = n + 1 := ⟨len - j - 1, by omega⟩
  have e : len - (j + 1) = n := by omega
  rw [hn, e]
  rfl
theorem dl_sf_e {sk : Nat → Int32} {len : Nat} {we : Bool} {j d : Nat} (h : len ≤ j) : dl_sf sk len we j d = -1 := by
  unfold dl_sf
  have e : len - j = 0 := by omega
  rw [e]
  rfl
/-- the four sorts of kinds -/
def dl_op (k : Int32) : Prop := k = 8 ∨ k = 11
theorem dl_op9 {k : Int32} (h : k = 9) : ¬ (k = 8 ∨ k = 11) := by subst h; decide
theorem dl_op10 {k : Int32} (h : k = 10) : ¬ (k = 8 ∨ k = 11) := by subst h; decide
theorem dl_o10 {k : Int32} (h : k = 8 ∨ k = 11) : ¬ k = 10 := by rcases h with h | h <;> subst h <;> decide
theorem dl_o9 {k : Int32} (h : k = 8 ∨ k = 11) : ¬ k = 9 := by rcases h with h | h <;> subst h <;> decide
theorem dl_910 {k : Int32} (h : k = 9) : ¬ k = 10 := by subst h; decide
theorem dl_sf_o {sk : Nat → Int32} {len : Nat} {we : Bool} {j d : Nat} (h : j < len) (k : sk j = 8 ∨ sk j = 11) : dl_sf sk len we j d = dl_sf sk len we (j + 1) (d + 1) := by
  rw [dl_sf_u h, if_pos k]
theorem dl_sf_n {sk : Nat → Int32} {len : Nat} {we : Bool} {j d : Nat} (h : j < len) (k1 : ¬ (sk j = 8 ∨ sk j = 11)) (k2 : ¬ sk j = 10) (k3 : ¬ sk j = 9) : dl_sf sk len we j d = dl_sf sk len we (j + 1) d := by
  rw [dl_sf_u h, if_neg k1, if_neg k2, if_neg (fun z => k3 z.1)]
theorem dl_sf_9 {sk : Nat → Int32} {len : Nat} {we : Bool} {j d : Nat} (h : j < len) (k : sk j = 9) (z : ¬ (d = 0 ∧ we = true)) : dl_sf sk len we j d = dl_sf sk len we (j + 1) d := by
  rw [dl_sf_u h, if_neg (dl_op9 k), if_neg (dl_910 k), if_neg (fun y => z y.2)]
theorem dl_sf_9t {sk : Nat → Int32} {len : Nat} {j : Nat} (h : j < len) (k : sk j = 9) : dl_sf sk len true j 0 = nI j := by
  rw [dl_sf_u h, if_neg (dl_op9 k), if_neg (dl_910 k), if_pos ⟨k, rfl, rfl⟩]
theorem dl_sf_10 {sk : Nat → Int32} {len : Nat} {we : Bool} {j d : Nat} (h : j < len) (k : sk j = 10) : dl_sf sk len we j (d + 1) = dl_sf sk len we (j + 1) d := by
  rw [dl_sf_u h, if_neg (dl_op10 k), if_pos k, if_neg (Nat.succ_ne_zero d), Nat.add_sub_cancel]
theorem dl_sf_10f {sk : Nat → Int32} {len : Nat} {j : Nat} (h : j < len) (k : sk j = 10) : dl_sf sk len false j 0 = nI j := by
  rw [dl_sf_u h, if_neg (dl_op10 k), if_pos k, if_pos rfl, if_neg (by decide)]
theorem dl_sf_10t {sk : Nat → Int32} {len : Nat} {j : Nat} (h : j < len) (k : sk j = 10) : dl_sf sk len true j 0 = -1 := by
  rw [dl_sf_u h, if_neg (dl_op10 k), if_pos k, if_pos rfl, if_pos rfl]
theorem dl_sb_10 {sk : Nat → Int32} {i d : Nat} (k : sk i = 10) : dl_sb sk (i + 1) d = dl_sb sk i (d + 1) := by
  show (if sk i = 10 then _ else _) = _
  rw [if_pos k]
theorem dl_sb_o0 {sk : Nat → Int32} {i : Nat} (k : sk i = 8 ∨ sk i = 11) : dl_sb sk (i + 1) 0 = nI i := by
  show (if sk i = 10 then _ else _) = _
  rw [if_neg (dl_o10 k), if_pos k, if_pos rfl]
theorem dl_sb_os {sk : Nat → Int32} {i d : Nat} (k : sk i = 8 ∨ sk i = 11) : dl_sb sk (i + 1) (d + 1) = dl_sb sk i d := by
  show (if sk i = 10 then _ else _) = _
  rw [if_neg (dl_o10 k), if_pos k, if_neg (Nat.succ_ne_zero d), Nat.add_sub_cancel]
theorem dl_sb_n {sk : Nat → Int32} {i d : Nat} (k1 : ¬ (sk i = 8 ∨ sk i = 11)) (k2 : ¬ sk i = 10) : dl_sb sk (i + 1) d = dl_sb sk i d := by
  show (if sk i = 10 then _ else _) = _
  rw [if_neg k2, if_neg k1]
/-! where a step at q leads, if it doesn't just go on -/
def dl_af (sk : Nat → Int32) (len q : Nat) : Int32 := if dl_sf sk len false (q + 1) 0 < 0 then nI len else dl_sf sk len false (q + 1) 0 + 1
def dl_if (sk : Nat → Int32) (len q : Nat) : Int32 := if 0 ≤ dl_sf sk len true (q + 1) 0 then dl_sf sk len true (q + 1) 0 + 1 else dl_af sk len q
def dl_en (sk : Nat → Int32) (q : Nat) : Int32 := if 0 ≤ dl_sb sk q 0 ∧ sk (dl_sb sk q 0).toNatClampNeg = 11 then dl_sb sk q 0 else nI (q + 1)
def dl_tg (sk : Nat → Int32) (len q : Nat) : Int32 := if sk q = 8 then dl_if sk len q else if sk q = 10 then dl_en sk q else dl_af sk len q
def dl_ct (k : Int32) : Prop := k = 8 ∨ k = 9 ∨ k = 10 ∨ k = 11
/-- what a check knows of open block d of D, in front of statement i -/
def dl_B (sk : Nat → Int32) (len i D : Nat) (op el : Nat → Int32) (d : Nat) : Prop := ∃ o, o < i ∧ op d = nI o ∧ (sk o = 8 ∨ sk o = 11) ∧ dl_sb sk i (D - 1 - d) = nI o ∧ dl_sf sk len false (o + 1) 0 = dl_sf sk len false i (D - 1 - d) ∧ ((el d = -1 ∧ dl_sf sk len true (o + 1) 0 = dl_sf sk len true i (D - 1 - d)) ∨ ∃ m, m < i ∧ el d = nI m ∧ sk o = 8 ∧ sk m = 9 ∧ dl_sf sk len true (o + 1) 0 = nI m ∧ dl_sf sk len false (m + 1) 0 = dl_sf sk len false i (D - 1 - d))
def dl_J (sk : Nat → Int32) (len i D : Nat) (op el jm : Nat → Int32) : Prop := ∀ q, q < i → dl_ct (sk q) → jm q = dl_tg sk len q ∨ ∃ d, d < D ∧ (op d = nI q ∨ el d = nI q)
def dl_K (sk : Nat → Int32) (len i D : Nat) (op el jm : Nat → Int32) : Prop := (∀ d, d < D → dl_B sk len i D op el d) ∧ dl_J sk len i D op el jm
theorem dl_K0 (sk : Nat → Int32) (len : Nat) (op el jm : Nat → Int32) : dl_K sk len 0 0 op el jm := ⟨fun d h => absurd h (by omega), fun q h => absurd h (by omega)⟩
theorem dl_K_n {sk : Nat → Int32} {len i D : Nat} {op el jm : Nat → Int32} (hi : i < len) (K : dl_K sk len i D op el jm) (k : ¬ dl_ct (sk i)) : dl_K sk len (i + 1) D op el jm := by
  have k1 : ¬ (sk i = 8 ∨ sk i = 11) := fun z => k (z.elim Or.inl (fun y => Or.inr (Or.inr (Or.inr y))))
  have k2 : ¬ sk i = 10 := fun z => k (Or.inr (Or.inr (Or.inl z)))
  have k3 : ¬ sk i = 9 := fun z => k (Or.inr (Or.inl z))
  refine ⟨fun d hd => ?_, fun q hq hc => ?_⟩
  · obtain ⟨o, h1, h2, h3, h4, h5, h6⟩ := K.1 d hd
    refine ⟨o, by omega, h2, h3, by rw [dl_sb_n k1 k2]; exact h4, by rw [h5, dl_sf_n hi k1 k2 k3], ?_⟩
    rcases h6 with ⟨a1, a2⟩ | ⟨m, a0, a1, a2, a3, a4, a5⟩
    · exact Or.inl ⟨a1, by rw [a2, dl_sf_n hi k1 k2 k3]⟩
    · exact Or.inr ⟨m, by omega, a1, a2, a3, a4, by rw [a5, dl_sf_n hi k1 k2 k3]⟩
  · rcases Nat.lt_or_ge q i with h | h
    · exact K.2 q h hc
    · have e : q = i := by omega
      subst e
      exact absurd hc k
theorem dl_K_o {sk : Nat → Int32} {len i D : Nat} {op el jm : Nat → Int32} (hi : i < len) (K : dl_K sk len i D op el jm) (k : sk i = 8 ∨ sk i = 11) : dl_K sk len (i + 1) (D + 1) (upd op D (nI i)) (upd el D (-1)) jm := by
  have u1 : ∀ d, d < D → upd op D (nI i) d = op d := fun d hd => if_neg (by omega)
  have u2 : ∀ d, d < D → upd el D (-1) d = el d := fun d hd => if_neg (by omega)
  have u3 : upd op D (nI i) D = nI i := if_pos rfl
  have u4 : upd el D (-1) D = -1 := if_pos rfl
  refine ⟨fun d hd => ?_, fun q hq hc => ?_⟩
  · rcases Nat.lt_or_ge d D with h | h
    · obtain ⟨o, h1, h2, h3, h4, h5, h6⟩ := K.1 d h
      have e : D + 1 - 1 - d = (D - 1 - d) + 1 := by omega
      refine ⟨o, by omega, by rw [u1 d h]; exact h2, h3, by rw [e, dl_sb_os k]; exact h4, by rw [e, h5, dl_sf_o hi k], ?_⟩
      rw [u2 d h, e]
      rcases h6 with ⟨a1, a2⟩ | ⟨m, a0, a1, a2, a3, a4, a5⟩
      · exact Or.inl ⟨a1, by rw [a2, dl_sf_o hi k]⟩
      · exact Or.inr ⟨m, by omega, a1, a2, a3, a4, by rw [a5, dl_sf_o hi k]⟩
    · have e : d = D := by omega
      subst e
      have e2 : d + 1 - 1 - d = 0 := by omega
      refine ⟨i, by omega, u3, k, by rw [e2, dl_sb_o0 k], by rw [e2], Or.inl ⟨u4, by rw [e2]⟩⟩
  · rcases Nat.lt_or_ge q i with h | h
    · rcases K.2 q h hc with z | ⟨d, hd, z⟩
      · exact Or.inl z
      · exact Or.inr ⟨d, by omega, by rw [u1 d hd, u2 d hd]; exact z⟩
    · have e : q = i := by omega
      subst e
      exact Or.inr ⟨D, by omega, Or.inl u3⟩
theorem dl_K_e {sk : Nat → Int32} {len i D : Nat} {op el jm : Nat → Int32} (hi : i < len) (K : dl_K sk len i (D + 1) op el jm) (k : sk i = 9) (hw : ∀ o, o < i → op D = nI o → ¬ sk o = 11) (hn : el D = -1) (h31 : len < 2 ^ 31) : dl_K sk len (i + 1) (D + 1) op (upd el D (nI i)) jm := by
  have u2 : ∀ d, d < D → upd el D (nI i) d = el d := fun d hd => if_neg (by omega)
  have u4 : upd el D (nI i) D = nI i := if_pos rfl
  refine ⟨fun d hd => ?_, fun q hq hc => ?_⟩
  · obtain ⟨o, h1, h2, h3, h4, h5, h6⟩ := K.1 d hd
    rcases Nat.lt_or_ge d D with h | h
    · have z : ∀ we : Bool, ¬ (D + 1 - 1 - d = 0 ∧ we = true) := fun we y => by omega
      refine ⟨o, by omega, h2, h3, by rw [dl_sb_n (dl_op9 k) (dl_910 k)]; exact h4, by rw [h5, dl_sf_9 hi k (z _)], ?_⟩
      rw [u2 d h]
      rcases h6 with ⟨a1, a2⟩ | ⟨m, a0, a1, a2, a3, a4, a5⟩
      · exact Or.inl ⟨a1, by rw [a2, dl_sf_9 hi k (z _)]⟩
      · exact Or.inr ⟨m, by omega, a1, a2, a3, a4, by rw [a5, dl_sf_9 hi k (z _)]⟩
    · have e : d = D := by omega
      subst e
      have e2 : d + 1 - 1 - d = 0 := by omega
      rw [e2] at h4 h5 h6
      have z : ¬ ((0 : Nat) = 0 ∧ false = true) := fun y => Bool.noConfusion y.2
      refine ⟨o, by omega, h2, h3, by rw [e2, dl_sb_n (dl_op9 k) (dl_910 k)]; exact h4, by rw [e2, h5, dl_sf_9 hi k z], Or.inr ⟨i, by omega, u4, ?_, k, ?_, by rw [e2]⟩⟩
      · exact h3.elim (fun y => y) (fun y => absurd y (hw o h1 h2))
      · rcases h6 with ⟨a1, a2⟩ | ⟨m, a0, a1, a2, a3, a4, a5⟩
        · rw [a2, dl_sf_9t hi k]
        · rw [hn] at a1
          exact absurd a1 (dl_m1n (by omega))
  · rcases Nat.lt_or_ge q i with h | h
    · rcases K.2 q h hc with z | ⟨d, hd, z⟩
      · exact Or.inl z
      · refine Or.inr ⟨d, hd, ?_⟩
        rcases Nat.lt_or_ge d D with hd2 | hd2
        · rw [u2 d hd2]; exact z
        · have e : d = D := by omega
          subst e
          rcases z with z | z
          · exact Or.inl z
          · rw [hn] at z
            exact absurd z (dl_m1n (by omega))
    · have e : q = i := by omega
      subst e
      exact Or.inr ⟨D, by omega, Or.inr u4⟩
theorem dl_af_v {sk : Nat → Int32} {len q i : Nat} (h : dl_sf sk len false (q + 1) 0 = nI i) (hi : i < 2 ^ 31) : dl_af sk len q = nI (i + 1) := by
  unfold dl_af
  rw [h, if_neg (nI_pos hi), nI_1]
theorem dl_tg_9 {sk : Nat → Int32} {len q i : Nat} (k : sk q = 9) (h : dl_sf sk len false (q + 1) 0 = nI i) (hi : i < 2 ^ 31) : dl_tg sk len q = nI (i + 1) := by
  unfold dl_tg
  rw [if_neg (fun z => dl_op9 k (Or.inl z)), if_neg (dl_910 k)]
  exact dl_af_v h hi
theorem dl_tg_11 {sk : Nat → Int32} {len q i : Nat} (k : sk q = 11) (h : dl_sf sk len false (q + 1) 0 = nI i) (hi : i < 2 ^ 31) : dl_tg sk len q = nI (i + 1) := by
  unfold dl_tg
  rw [if_neg (by rw [k]; decide), if_neg (by rw [k]; decide)]
  exact dl_af_v h hi
theorem dl_tg_8 {sk : Nat → Int32} {len q m : Nat} (k : sk q = 8) (h : dl_sf sk len true (q + 1) 0 = nI m) (hm : m < 2 ^ 31) : dl_tg sk len q = nI (m + 1) := by
  unfold dl_tg dl_if
  rw [if_pos k, h, if_pos (nI_pos' hm), nI_1]
theorem dl_tg_8n {sk : Nat → Int32} {len q i : Nat} (k : sk q = 8) (h : dl_sf sk len true (q + 1) 0 = -1) (h2 : dl_sf sk len false (q + 1) 0 = nI i) (hi : i < 2 ^ 31) : dl_tg sk len q = nI (i + 1) := by
  unfold dl_tg dl_if
  rw [if_pos k, h, if_neg (by decide)]
  exact dl_af_v h2 hi
theorem dl_tg_10 {sk : Nat → Int32} {len q o : Nat} (k : sk q = 10) (h : dl_sb sk q 0 = nI o) (ho : o < 2 ^ 31) : dl_tg sk len q = if sk o = 11 then nI o else nI (q + 1) := by
  unfold dl_tg dl_en
  rw [if_neg (fun z => dl_op10 k (Or.inl z)), if_pos k, h, nI_clamp ho]
  by_cases z : sk o = 11
  · rw [if_pos z, if_pos ⟨nI_pos' ho, z⟩]
  · rw [if_neg z, if_neg (fun y => z y.2)]
/-- closing the innermost block at an END: any jumps that are right at the block's own places, and elsewhere as they were -/
theorem dl_K_x {sk : Nat → Int32} {len i D : Nat} {op el jm jm' : Nat → Int32} (hi : i < len) (K : dl_K sk len i (D + 1) op el jm) (k : sk i = 10) (h1 : jm' i = dl_tg sk len i) (h2 : ∀ q, q < i → op D = nI q → jm' q = dl_tg sk len q) (h3 : ∀ q, q < i → el D = nI q → jm' q = dl_tg sk len q) (h4 : ∀ q, q < i → ¬ op D = nI q → ¬ el D = nI q → jm' q = jm q) : dl_K sk len (i + 1) D op el jm' := by
  refine ⟨fun d hd => ?_, fun q hq hc => ?_⟩
  · obtain ⟨o, a1, a2, a3, a4, a5, a6⟩ := K.1 d (by omega)
    have e : D + 1 - 1 - d = (D - 1 - d) + 1 := by omega
    rw [e] at a4 a5 a6
    refine ⟨o, by omega, a2, a3, by rw [dl_sb_10 k]; exact a4, by rw [a5, dl_sf_10 hi k], ?_⟩
    rcases a6 with ⟨b1, b2⟩ | ⟨m, b0, b1, b2, b3, b4, b5⟩
    · exact Or.inl ⟨b1, by rw [b2, dl_sf_10 hi k]⟩
    · exact Or.inr ⟨m, by omega, b1, b2, b3, b4, by rw [b5, dl_sf_10 hi k]⟩
  · rcases Nat.lt_or_ge q i with h | h
    · by_cases z1 : op D = nI q
      · exact Or.inl (h2 q h z1)
      · by_cases z2 : el D = nI q
        · exact Or.inl (h3 q h z2)
        · rcases K.2 q h hc with z | ⟨d, hd, z⟩
          · exact Or.inl ((h4 q h z1 z2).trans z)
          · rcases Nat.lt_or_ge d D with hd2 | hd2
            · exact Or.inr ⟨d, hd2, z⟩
            · have e : d = D := by omega
              subst e
              exact absurd z (fun y => y.elim z1 z2)
    · have e : q = i := by omega
      subst e
      exact Or.inl h1
/-- what the innermost block says at an END -/
theorem dl_K_top {sk : Nat → Int32} {len i D : Nat} {op el jm : Nat → Int32} (hi : i < len) (hl : len < 2 ^ 31) (K : dl_K sk len i (D + 1) op el jm) (k : sk i = 10) : ∃ o, o < i ∧ op D = nI o ∧ (sk o = 8 ∨ sk o = 11) ∧ dl_tg sk len i = (if sk o = 11 then nI o else nI (i + 1)) ∧ ((el D = -1 ∧ dl_tg sk len o = nI (i + 1)) ∨ ∃ m, m < i ∧ el D = nI m ∧ sk o = 8 ∧ sk m = 9 ∧ dl_tg sk len o = nI (m + 1) ∧ dl_tg sk len m = nI (i + 1)) := by
  obtain ⟨o, a1, a2, a3, a4, a5, a6⟩ := K.1 D (by omega)
  have e : D + 1 - 1 - D = 0 := by omega
  rw [e] at a4 a5 a6
  rw [dl_sf_10f hi k] at a5
  refine ⟨o, a1, a2, a3, dl_tg_10 k a4 (by omega), ?_⟩
  rcases a6 with ⟨b1, b2⟩ | ⟨m, b0, b1, b2, b3, b4, b5⟩
  · rw [dl_sf_10t hi k] at b2
    refine Or.inl ⟨b1, ?_⟩
    rcases a3 with a3 | a3
    · exact dl_tg_8n a3 b2 a5 (by omega)
    · exact dl_tg_11 a3 a5 (by omega)
  · rw [dl_sf_10f hi k] at b5
    exact Or.inr ⟨m, b0, b1, b2, b3, dl_tg_8 b2 b4 (by omega), dl_tg_9 b3 b5 (by omega)⟩
theorem dl_K_fin {sk : Nat → Int32} {len : Nat} {op el jm : Nat → Int32} (K : dl_K sk len len 0 op el jm) : ∀ q, q < len → dl_ct (sk q) → jm q = dl_tg sk len q := by
  intro q hq hc
  rcases K.2 q hq hc with z | ⟨d, hd, _⟩
  · exact z
  · omega
/-! a target is a position of the program, or just behind it -/
theorem dl_sc_r (sk : Nat → Int32) (we : Bool) : ∀ n j d, dl_sc sk we n j d = -1 ∨ ∃ r, j ≤ r ∧ r < j + n ∧ dl_sc sk we n j d = nI r := by
  intro n
  induction n with
  | zero => intro j d; exact Or.inl rfl
  | succ n ih =>
    intro j d
    have up : ∀ d', dl_sc sk we n (j + 1) d' = -1 ∨ ∃ r, j ≤ r ∧ r < j + (n + 1) ∧ dl_sc sk we n (j + 1) d' = nI r := by
      intro d'
      rcases ih (j + 1) d' with z | ⟨r, r1, r2, z⟩
      · exact Or.inl z
      · exact Or.inr ⟨r, by omega, by omega, z⟩
    show (if sk j = 8 ∨ sk j = 11 then dl_sc sk we n (j + 1) (d + 1) else if sk j = 10 then (if d = 0 then (if we = true then -1 else nI j) else dl_sc sk we n (j + 1) (d - 1)) else if sk j = 9 ∧ d = 0 ∧ we = true then nI j else dl_sc sk we n (j + 1) d) = -1 ∨ ∃ r, j ≤ r ∧ r < j + (n + 1) ∧ (if sk j = 8 ∨ sk j = 11 then dl_sc sk we n (j + 1) (d + 1) else if sk j = 10 then (if d = 0 then (if we = true then -1 else nI j) else dl_sc sk we n (j + 1) (d - 1)) else if sk j = 9 ∧ d = 0 ∧ we = true then nI j else dl_sc sk we n (j + 1) d) = nI r
    split
    · exact up _
    · split
      · split
        · split
          · exact Or.inl rfl
          · exact Or.inr ⟨j, by omega, by omega, rfl⟩
        · exact up _
      · split
        · exact Or.inr ⟨j, by omega, by omega, rfl⟩
        · exact up _
theorem dl_sf_r (sk : Nat → Int32) (len : Nat) (we : Bool) (j d : Nat) : dl_sf sk len we j d = -1 ∨ ∃ r, r < len ∧ dl_sf sk len we j d = nI r := by
  unfold dl_sf
  rcases dl_sc_r sk we (len - j) j d with z | ⟨r, r1, r2, z⟩
  · exact Or.inl z
  · exact Or.inr ⟨r, by omega, z⟩
theorem dl_sb_r (sk : Nat → Int32) : ∀ i d, dl_sb sk i d = -1 ∨ ∃ r, r < i ∧ dl_sb sk i d = nI r := by
  intro i
  induction i with
  | zero => intro d; exact Or.inl rfl
  | succ i ih =>
    intro d
    have up : ∀ d', dl_sb sk i d' = -1 ∨ ∃ r, r < i + 1 ∧ dl_sb sk i d' = nI r := by
      intro d'
      rcases ih d' with z | ⟨r, r1, z⟩
      · exact Or.inl z
      · exact Or.inr ⟨r, by omega, z⟩
    show (if sk i = 10 then dl_sb sk i (d + 1) else if sk i = 8 ∨ sk i = 11 then (if d = 0 then nI i else dl_sb sk i (d - 1)) else dl_sb sk i d) = -1 ∨ ∃ r, r < i + 1 ∧ (if sk i = 10 then dl_sb sk i (d + 1) else if sk i = 8 ∨ sk i = 11 then (if d = 0 then nI i else dl_sb sk i (d - 1)) else dl_sb sk i d) = nI r
    split
    · exact up _
    · split
      · split
        · exact Or.inr ⟨i, by omega, rfl⟩
        · exact up _
      · exact up _
theorem dl_af_r (sk : Nat → Int32) {len q : Nat} (hl : len < 2 ^ 31) : ∃ r, r ≤ len ∧ dl_af sk len q = nI r := by
  unfold dl_af
  rcases dl_sf_r sk len false (q + 1) 0 with z | ⟨r, hr, z⟩
  · rw [z, if_pos (by decide)]
    exact ⟨len, Nat.le_refl _, rfl⟩
  · rw [z, if_neg (nI_pos (by omega)), nI_1]
    exact ⟨r + 1, by omega, rfl⟩
theorem dl_tg_r (sk : Nat → Int32) {len q : Nat} (hq : q < len) (hl : len < 2 ^ 31) : ∃ r, r ≤ len ∧ dl_tg sk len q = nI r := by
  unfold dl_tg
  split
  · unfold dl_if
    rcases dl_sf_r sk len true (q + 1) 0 with z | ⟨r, hr, z⟩
    · rw [z, if_neg (by decide)]
      exact dl_af_r sk hl
    · rw [z, if_pos (nI_pos' (by omega)), nI_1]
      exact ⟨r + 1, by omega, rfl⟩
  · split
    · unfold dl_en
      rcases dl_sb_r sk q 0 with z | ⟨r, hr, z⟩
      · rw [z, if_neg (fun y => absurd y.1 (by decide))]
        exact ⟨q + 1, by omega, rfl⟩
      · rw [z]
        split
        · exact ⟨r, by omega, rfl⟩
        · exact ⟨q + 1, by omega, rfl⟩
    · exact dl_af_r sk hl
end
section
/-! the reference's private methods, each with a general post -/
section
variable {xP xC xA xL xO xQ xS xK yP yC yA yL yQ yS yK yD : Int32} {dA aA po st jm pl op el so ip va ov oc ed cl py sk sa sb sc yi yv yo yn jl pc sv bk be : Nat → Int32}
theorem dl_vb1 : vp_nar .boolean 1 = 1 := by decide
theorem dl_vb0 : vp_nar .boolean 0 = 0 := by decide
theorem dl_64 {a b : Nat} (ha : a < 8) (hb : b < 8) : a * 8 + b < 64 := by omega
theorem dy_reset {post : SY → Prop} (h : post (yP, yC, yA, yL, 0, 0, -1, yD, ed, cl, py, sk, sa, sb, sc, yi, yv, yo, dl_zn yn 4, jl, pc, sv, bk, be)) : wpY_reset post (yP, yC, yA, yL, yQ, yS, yK, yD, ed, cl, py, sk, sa, sb, sc, yi, yv, yo, yn, jl, pc, sv, bk, be) := by
  refine loop_0 (fun n i a => wY_reset_12 post yP yC yA yL 0 0 yK yD n (nI i) ed cl py sk sa sb sc yi yv yo a jl pc sv bk be) (fun i a => a = dl_zn yn i) 4 yn rfl ?_ ?_
  · intro n a ha
    subst ha
    exact br_t (nI_le (a := 4) (b := 4) (by omega) (by omega)) h
  · intro n i a hi ha ih
    subst ha
    refine br_f (nI_ge (b := 4) hi (by omega)) ⟨vp_in_nI hi (by omega), nm_r (e' := dl_zn yn (i + 1)) ?_ (nm_r (nI_1 i) (ih _ rfl))⟩
    rw [dl_c (by omega)]
    rfl
theorem dy_c72 {post : SY → Prop} {J : Int32 → (Nat → Int32) → (Nat → Int32) → (Nat → Int32) → (Nat → Int32) → (Nat → Int32) → (Nat → Int32) → (Nat → Int32) → (Nat → Int32) → (Nat → Int32) → (Nat → Int32) → (Nat → Int32) → (Nat → Int32) → (Nat → Int32) → (Nat → Int32) → (Nat → Int32) → (Nat → Int32) → Prop} {P r : Nat} {e : Nat → Nat → Prop} (h1 : 0 < P) (hP : P ≤ 8) (he : ∀ i j, i < P → j < P → (¬ ed (i * 8 + j) = 0 ↔ e i j)) (g : dl_C P e cl r) (h : ∀ C', dl_C P e C' (r + 1) → J (nI (r + 1)) ed C' py sk sa sb sc yi yv yo yn jl pc sv bk be) : ∃ n, wY_closure_72 post J (nI (P * P * P)) (nI r) (nI P) yC yA yL yQ yS yK yD n 0 ed cl py sk sa sb sc yi yv yo yn jl pc sv bk be := by
  have hPP : P * P ≤ 64 := Nat.mul_le_mul hP hP
  have hPPP : P * P * P ≤ 512 := Nat.mul_le_mul hPP hP
  have h0 : 0 < P * P := Nat.mul_pos h1 h1
  refine loop_0 (fun n t a => wY_closure_72 post J (nI (P * P * P)) (nI r) (nI P) yC yA yL yQ yS yK yD n (nI t) ed a py sk sa sb sc yi yv yo yn jl pc sv bk be) (fun t a => dl_Ci P e cl a t) (P * P * P) cl (dl_Ci0 g) ?_ ?_
  · intro n a ha
    exact br_t (nI_le (Nat.le_refl _) (by omega)) (nm_r (nI_1 r) (h a (dl_Cs g ha)))
  · intro n t a ht ha ih
    have hi : t / (P * P) < P := Nat.div_lt_of_lt_mul ht
    have hk : t / P % P < P := Nat.mod_lt _ h1
    have hj : t % P < P := Nat.mod_lt _ h1
    have ht2 : t < 2 ^ 31 := by omega
    have hd : t / P < 2 ^ 31 := Nat.lt_of_le_of_lt (Nat.div_le_self _ _) ht2
    have e1 : nI t / (nI P * nI P) = nI (t / (P * P)) := by
      rw [pk_mul]
      exact pk_div ht2 h0 (by omega)
    have e2 : nI t / nI P - nI t / nI P / nI P * nI P = nI (t / P % P) := by
      rw [pk_div ht2 h1 (by omega)]
      exact pk_rem hd h1 (by omega)
    have e3 : nI t - nI t / nI P * nI P = nI (t % P) := pk_rem ht2 h1 (by omega)
    have nz : ¬ nI P = 0 := nI_ne0 h1 (by omega)
    have nz2 : ¬ nI P * nI P = 0 := by
      rw [pk_mul]
      exact nI_ne0 h0 (by omega)
    have b1 := dl_64 (Nat.lt_of_lt_of_le hi hP) (Nat.lt_of_lt_of_le hk hP)
    have b2 := dl_64 (Nat.lt_of_lt_of_le hk hP) (Nat.lt_of_lt_of_le hj hP)
    have b3 := dl_64 (Nat.lt_of_lt_of_le hi hP) (Nat.lt_of_lt_of_le hj hP)
    have s1 := fun z => dl_Cis h1 hP ha (C' := a) (Or.inl ⟨rfl, z⟩) hi
    have s2 := fun z => dl_Cis h1 hP ha (C' := upd a (t / (P * P) * 8 + t % P) 1) (Or.inr ⟨rfl, z⟩) hi
    have hej := he _ _ hk hj
    refine br_f (nI_ge ht (by omega)) ⟨nz2, nm_r e1 ⟨nz, nz, nm_r e2 ⟨nz, nm_r e3 ?_⟩⟩⟩
    generalize t / (P * P) = x at *
    generalize t / P % P = y at *
    generalize t % P = w at *
    rw [dl_m8 x y, dl_m8 y w, dl_m8 x w, dl_c (show x * 8 + y < 2 ^ 31 by omega), dl_c (show y * 8 + w < 2 ^ 31 by omega), dl_c (show x * 8 + w < 2 ^ 31 by omega)]
    exact ⟨vp_in_nI b1 (by omega), br_c (fun z => nm_r (nI_1 t) (ih _ (s1 (fun q => q.1 z)))) (fun z => ⟨vp_in_nI b2 (by omega), br_c (fun u => nm_r (nI_1 t) (ih _ (s1 (fun q => hej.mpr q.2 u)))) (fun u => ⟨vp_in_nI b3 (by omega), nm_r (e' := upd a (x * 8 + w) 1) (by rw [dl_vb1]) (nm_r (nI_1 t) (ih _ (s2 ⟨z, hej.mp u⟩)))⟩)⟩)⟩
theorem dy_c62 {post : SY → Prop} {P : Nat} {e : Nat → Nat → Prop} (h1 : 0 < P) (hP : P ≤ 8) (he : ∀ i j, i < P → j < P → (¬ ed (i * 8 + j) = 0 ↔ e i j)) (g : dl_C P e cl 0) (h : ∀ C', dl_C P e C' P → post (nI P, yC, yA, yL, yQ, yS, yK, yD, ed, C', py, sk, sa, sb, sc, yi, yv, yo, yn, jl, pc, sv, bk, be)) : ∃ n, wY_closure_62 post (nI (P * P * P)) (nI P) yC yA yL yQ yS yK yD n 0 ed cl py sk sa sb sc yi yv yo yn jl pc sv bk be := by
  refine loop_0 (fun n r a => wY_closure_62 post (nI (P * P * P)) (nI P) yC yA yL yQ yS yK yD n (nI r) ed a py sk sa sb sc yi yv yo yn jl pc sv bk be) (fun r a => dl_C P e a r) P cl g ?_ ?_
  · intro n a ha
    exact br_t (nI_le (Nat.le_refl _) (by omega)) (h a ha)
  · intro n r a hr ha ih
    exact br_f (nI_ge hr (by omega)) (dy_c72 h1 hP he ha (fun C' hC => ih C' hC))
theorem dy_close {post : SY → Prop} {P : Nat} {e : Nat → Nat → Prop} (h1 : 0 < P) (hP : P ≤ 8) (he : ∀ i j, i < P → j < P → (¬ ed (i * 8 + j) = 0 ↔ e i j)) (h : ∀ C', dl_C P e C' P → post (nI P, yC, yA, yL, yQ, yS, yK, yD, ed, C', py, sk, sa, sb, sc, yi, yv, yo, yn, jl, pc, sv, bk, be)) : wpY_closure post (nI P, yC, yA, yL, yQ, yS, yK, yD, ed, cl, py, sk, sa, sb, sc, yi, yv, yo, yn, jl, pc, sv, bk, be) := by
  refine loop_0 (fun n x a => wY_closure_2 post (nI P) yC yA yL yQ yS yK yD n (nI x) ed a py sk sa sb sc yi yv yo yn jl pc sv bk be) (fun x a => ∀ y, y < x → (a y = 0 ∨ a y = 1) ∧ (¬ a y = 0 ↔ y / 8 = y % 8 ∨ ¬ ed y = 0)) 64 cl (fun y hy => absurd hy (by omega)) ?_ ?_
  · intro n a ha
    refine br_t (nI_le (a := 64) (b := 64) (by omega) (by omega)) (nm_r (e' := nI (P * P * P)) (by rw [pk_mul, pk_mul]) (dy_c62 h1 hP he (dl_C0 hP (fun x hx => (ha x hx).1) (fun i j hi hj => ?_)) h))
    have q := (ha (i * 8 + j) (by omega)).2
    have e1 : (i * 8 + j) / 8 = i := by omega
    have e2 : (i * 8 + j) % 8 = j := by omega
    rw [e1, e2, he i j hi hj] at q
    exact q
  · intro n x a hx ha ih
    have d : nI x / 8 = nI (x / 8) := pk_div (d := 8) (by omega) (by omega) (by omega)
    have r : nI x - nI x / 8 * 8 = nI (x % 8) := pk_rem (d := 8) (by omega) (by omega) (by omega)
    have v : vp_in (nI x) 64 := vp_in_nI hx (by omega)
    have nx : ∀ z : Int32, (z = 0 ∨ z = 1) → (¬ z = 0 ↔ x / 8 = x % 8 ∨ ¬ ed x = 0) → wY_closure_2 post (nI P) yC yA yL yQ yS yK yD n (nI (x + 1)) ed (upd a x z) py sk sa sb sc yi yv yo yn jl pc sv bk be := by
      intro z z1 z2
      refine ih _ (fun y hy => ?_)
      by_cases e : y = x
      · subst e
        rw [pk_us]
        exact ⟨z1, z2⟩
      · rw [pk_un e]
        exact ha y (by omega)
    refine br_f (nI_ge (b := 64) hx (by omega)) ⟨by decide, by decide, ?_⟩
    rw [r, d, dl_c (show x < 2 ^ 31 by omega), dl_vb1, dl_vb0]
    have q : nI (x / 8) = nI (x % 8) ↔ x / 8 = x % 8 := nI_eq (by omega) (by omega)
    refine br_c (fun z => ⟨v, nm_e (nm_r (nI_1 x) (nx 1 (Or.inr rfl) ⟨fun _ => Or.inl (q.mp z), fun _ => by decide⟩))⟩) (fun z => ⟨v, br_c (fun y => ⟨v, nm_e (nm_r (nI_1 x) (nx 0 (Or.inl rfl) ⟨fun w => absurd rfl w, fun w => w.elim (fun u => absurd (q.mpr u) z) (fun u => absurd y u)⟩))⟩) (fun y => ⟨v, nm_e (nm_r (nI_1 x) (nx 1 (Or.inr rfl) ⟨fun _ => Or.inr y, fun _ => by decide⟩))⟩)⟩)
theorem dl_CAof {P : Nat} {D A C : Nat → Int32} (hA : dl_A P D A) (hC : dl_C P (dl_E D) C P) : dl_CA P C A := by
  intro i j hi hj
  rw [hA j hj i]
  constructor
  · intro h
    exact ⟨hi, hC.2.1 i j hi hj h⟩
  · intro h
    obtain ⟨n, hn, hr⟩ := dl_short hi hj h.2
    exact hC.2.2 n i j (by omega) hi hj hr
theorem dy_eff {post : Int32 → Prop} {P o : Nat} {r : Int32} {D A : Nat → Int32} (hP : P ≤ 8) (ho : o < P) (hA : dl_A P D A) (hc : dl_CA P cl A) (h : post (dl_e A o r P)) : wpY_eff post (nI P, yC, yA, yL, yQ, yS, yK, yD, ed, cl, py, sk, sa, sb, sc, yi, yv, yo, yn, jl, pc, sv, bk, be) (nI o) r := by
  refine loop_0 (fun n q m => wY_eff_5 post (nI o) r (nI P) yC yA yL yQ yS yK yD ed cl py sk sa sb sc yi yv yo yn jl pc sv bk be n m (nI q)) (fun q m => ∀ i, i < 32 → (bt m i = true ↔ i < q ∧ dl_in P cl o r i)) P 0 ?_ ?_ ?_
  · intro i hi
    rw [b_0]
    exact ⟨fun z => absurd z (by decide), fun z => absurd z.1 (by omega)⟩
  · intro n m hm
    refine br_t (nI_le (Nat.le_refl _) (by omega)) ?_
    rw [dl_mask hA hc ho hm]
    exact h
  · intro n q m hq hm ih
    refine br_f (nI_ge hq (by omega)) ?_
    rw [dl_m8 q o, dl_c (show q * 8 + o < 2 ^ 31 by omega)]
    refine ⟨vp_in_nI (by omega) (by omega), nm_e ?_⟩
    refine loop_0 (fun n' s z => wY_eff_31 post (wY_eff_5 post (nI o) r (nI P) yC yA yL yQ yS yK yD ed cl py sk sa sb sc yi yv yo yn jl pc sv bk be n) (nI o) r m (nI q) (nI P) yC yA yL yQ yS yK yD ed cl py sk sa sb sc yi yv yo yn jl pc sv bk be n' z (nI s)) (fun s z => (¬ z = 0 ↔ ¬ cl (q * 8 + o) = 0 ∨ ∃ s', s' < s ∧ bt r s' = true ∧ ¬ cl (q * 8 + s') = 0)) P (cl (q * 8 + o)) ?_ ?_ ?_
    · exact ⟨Or.inl, fun z => z.elim (fun y => y) (fun ⟨_, w, _⟩ => absurd w (by omega))⟩
    · intro n' z hz
      have hz2 : ¬ z = 0 ↔ dl_in P cl o r q := hz
      refine br_t (nI_le (Nat.le_refl _) (by omega)) (br_c (fun y => nm_r (nI_1 q) (ih _ ?_)) (fun y => nm_e (nm_r (nI_1 q) (ih _ ?_))))
      · intro i hi
        rw [hm i hi]
        refine ⟨fun w => ⟨by omega, w.2⟩, fun w => ⟨?_, w.2⟩⟩
        by_cases e : i = q
        · subst e
          exact absurd y (hz2.mpr w.2)
        · omega
      · intro i hi
        rw [b_or, dl_one (by omega) hi, Bool.or_eq_true, hm i hi, decide_eq_true_iff]
        constructor
        · intro w
          rcases w with w | w
          · exact ⟨by omega, w.2⟩
          · subst w
            exact ⟨by omega, hz2.mp y⟩
        · intro w
          by_cases e : i = q
          · exact Or.inr e
          · exact Or.inl ⟨by omega, w.2⟩
    · intro n' s z hs hz ih'
      have up : ∀ z' : Int32, (¬ z' = 0 ↔ (¬ z = 0 ∨ (bt r s = true ∧ ¬ cl (q * 8 + s) = 0))) → wY_eff_31 post (wY_eff_5 post (nI o) r (nI P) yC yA yL yQ yS yK yD ed cl py sk sa sb sc yi yv yo yn jl pc sv bk be n) (nI o) r m (nI q) (nI P) yC yA yL yQ yS yK yD ed cl py sk sa sb sc yi yv yo yn jl pc sv bk be n' z' (nI (s + 1)) := by
        intro z' hz'
        refine ih' z' ?_
        rw [hz', hz]
        constructor
        · rintro ((w | ⟨s', w1, w2⟩) | w)
          · exact Or.inl w
          · exact Or.inr ⟨s', by omega, w2⟩
          · exact Or.inr ⟨s, by omega, w⟩
        · rintro (w | ⟨s', w1, w2⟩)
          · exact Or.inl (Or.inl w)
          · by_cases e : s' = s
            · subst e
              exact Or.inr w2
            · exact Or.inl (Or.inr ⟨s', by omega, w2⟩)
      refine br_f (nI_ge hs (by omega)) (br_c (fun y => nm_r (nI_1 s) (up z ⟨Or.inl, fun w => w.elim (fun u => u) (fun u => absurd u.1 (by rw [(dl_bs (by omega)).mp y]; decide))⟩)) (fun y => ?_))
      rw [dl_m8 q s, dl_c (show q * 8 + s < 2 ^ 31 by omega)]
      exact ⟨vp_in_nI (by omega) (by omega), br_c (fun w => nm_r (nI_1 s) (up z ⟨Or.inl, fun u => u.elim (fun t => t) (fun t => absurd w t.2)⟩)) (fun w => nm_r (nI_1 s) (up 1 ⟨fun _ => Or.inr ⟨dl_nt (fun u => y ((dl_bs (by omega)).mpr u)), w⟩, fun _ => by decide⟩))⟩
theorem dy_rd {post : Int32 → SY → Prop} {P t p : Nat} {D A : Nat → Int32} (hP : P ≤ 8) (ht : t < 20) (hp : p < P) (hA : dl_A P D A) (hc : dl_CA P cl A) (h1 : dl_rd P A py t p → post 1 (nI P, yC, yA, yL, yQ, yS, yK, yD, ed, cl, py, sk, sa, sb, sc, yi, yv, yo, yn, jl, pc, sv, bk, be)) (h0 : ¬ dl_rd P A py t p → post 0 (nI P, yC, yA, yL, yQ, yS, yK, yD, ed, cl, py, sk, sa, sb, sc, yi, yv, yo, yn, jl, pc, sv, bk, be)) : ∃ n, wY_canRead_26 post (nI p) (nI t) (nI P) yC yA yL yQ yS yK yD ed cl py sk sa sb sc yi yv yo yn jl pc sv bk be n 0 := by
  refine loop_0 (fun n i (_ : Unit) => wY_canRead_26 post (nI p) (nI t) (nI P) yC yA yL yQ yS yK yD ed cl py sk sa sb sc yi yv yo yn jl pc sv bk be n (nI i)) (fun i _ => ∀ o, o < i → ¬ py (t * 8 + o) = -1 → bt (dl_e A o (py (t * 8 + o)) P) p = true) P () (fun o ho => absurd ho (by omega)) ?_ ?_
  · intro n _ ha
    exact br_t (nI_le (Nat.le_refl _) (by omega)) (h1 ha)
  · intro n i _ hi ha ih
    have nx : ∀ z : ¬ py (t * 8 + i) = -1 → bt (dl_e A i (py (t * 8 + i)) P) p = true, ∀ o, o < i + 1 → ¬ py (t * 8 + o) = -1 → bt (dl_e A o (py (t * 8 + o)) P) p = true := by
      intro z o ho
      by_cases e : o = i
      · subst e
        exact z
      · exact ha o (by omega)
    refine br_f (nI_ge hi (by omega)) ?_
    rw [dl_m8, dl_c (show t * 8 + i < 2 ^ 31 by omega)]
    refine ⟨vp_in_nI (by omega) (by omega), nm_e (br_c (fun z => nm_r (nI_1 i) (ih () (nx (fun w => absurd z w)))) (fun z => dy_eff hP hi hA hc (br_c (fun hb => h0 (fun w => ?_)) (fun hb => nm_r (nI_1 i) (ih () (nx (fun _ => dl_nt (fun w => hb ((dl_bs (by omega)).mpr w))))))))) ⟩
    have q := (dl_bs (by omega)).mp hb
    rw [w i hi z] at q
    exact absurd q (by decide)
/-! flows -/
theorem dl_au {P o : Nat} {D A : Nat → Int32} {d : Int32} (ho : o < P) (hP : P ≤ 8) (hA : dl_A P D A) : (A o &&& d) = 0 ↔ ¬ ∃ a, a < P ∧ bt d a = true ∧ bt (A o) a = true := by
  constructor
  · rintro h ⟨a, h1, h2, h3⟩
    have t : bt (A o &&& d) a = bt 0 a := by rw [h]
    rw [b_and, b_0, h2, h3] at t
    exact absurd t (by decide)
  · intro h
    apply b_ext
    intro i hi
    rw [b_and, b_0]
    by_cases e : bt (A o) i = true
    · by_cases f : bt d i = true
      · exact absurd ⟨i, ((hA o ho i).mp e).1, f, e⟩ h
      · rw [dl_nf f, Bool.and_false]
    · rw [dl_nf e, Bool.false_and]
theorem dy_f99 {post : Int32 → Prop} {J : Int32 → Prop} {x2 : Int32} {P t o : Nat} {r : Int32} {D A : Nat → Int32} (hP : P ≤ 8) (ht : t < 20) (ho : o < P) (hA : dl_A P D A) (hc : dl_CA P cl A) (h1 : dl_kp P A py t o r → J (nI (o + 1))) (h0 : ¬ dl_kp P A py t o r → post 0) : ∃ n, wY_flows_99 post J (nI t) x2 (nI o) (dl_e A o r P) (nI P) yC yA yL yQ yS yK yD ed cl py sk sa sb sc yi yv yo yn jl pc sv bk be n 0 0 := by
  refine loop_0 (fun n i z => wY_flows_99 post J (nI t) x2 (nI o) (dl_e A o r P) (nI P) yC yA yL yQ yS yK yD ed cl py sk sa sb sc yi yv yo yn jl pc sv bk be n z (nI i)) (fun i z => (¬ z = 0 ↔ ∃ k, k < i ∧ ¬ py (t * 8 + k) = -1 ∧ bt (A o) k = true ∧ (dl_e A k (py (t * 8 + k)) P &&& (dl_e A o r P ^^^ (-1))) = 0)) P 0 ?_ ?_ ?_
  · exact ⟨fun z => absurd rfl z, fun ⟨_, w, _⟩ => absurd w (by omega)⟩
  · intro n z hz
    exact br_t (nI_le (Nat.le_refl _) (by omega)) (br_c (fun y => h0 (fun w => hz.mpr w y)) (fun y => nm_r (nI_1 o) (h1 (hz.mp y))))
  · intro n i z hi hz ih
    have up : ∀ z' : Int32, (¬ z' = 0 ↔ (¬ z = 0 ∨ (¬ py (t * 8 + i) = -1 ∧ bt (A o) i = true ∧ (dl_e A i (py (t * 8 + i)) P &&& (dl_e A o r P ^^^ (-1))) = 0))) → wY_flows_99 post J (nI t) x2 (nI o) (dl_e A o r P) (nI P) yC yA yL yQ yS yK yD ed cl py sk sa sb sc yi yv yo yn jl pc sv bk be n z' (nI (i + 1)) := by
      intro z' hz'
      refine ih z' ?_
      rw [hz', hz]
      constructor
      · rintro (⟨k, w1, w2⟩ | w)
        · exact ⟨k, by omega, w2⟩
        · exact ⟨i, by omega, w⟩
      · rintro ⟨k, w1, w2⟩
        by_cases e : k = i
        · subst e
          exact Or.inr w2
        · exact Or.inl ⟨k, by omega, w2⟩
    have hio := hc i o hi ho
    refine br_f (nI_ge hi (by omega)) ?_
    rw [dl_m8 t i, dl_m8 i o, dl_c (show t * 8 + i < 2 ^ 31 by omega), dl_c (show i * 8 + o < 2 ^ 31 by omega)]
    exact ⟨vp_in_nI (by omega) (by omega), nm_e (br_c (fun y => nm_r (nI_1 i) (up z ⟨Or.inl, fun w => w.elim (fun u => u) (fun u => absurd y u.1)⟩)) (fun y => ⟨vp_in_nI (by omega) (by omega), br_c (fun w => nm_r (nI_1 i) (up z ⟨Or.inl, fun v => v.elim (fun u => u) (fun u => absurd w (hio.mpr u.2.1))⟩)) (fun w => dy_eff hP hi hA hc (br_c (fun v => nm_r (nI_1 i) (up 1 ⟨fun _ => Or.inr ⟨y, hio.mp w, v⟩, fun _ => by decide⟩)) (fun v => nm_r (nI_1 i) (up z ⟨Or.inl, fun q => q.elim (fun u => u) (fun u => absurd u.2.2 v)⟩))))⟩))⟩
theorem dy_f78 {post : Int32 → Prop} {J : Int32 → Prop} {x2 : Int32} {P t o : Nat} {D A : Nat → Int32} (hP : P ≤ 8) (ht : t < 20) (ho : o < P) (hA : dl_A P D A) (hc : dl_CA P cl A) (h1 : dl_kp P A py t o (jl o) → J (nI (o + 1))) (h0 : ¬ dl_kp P A py t o (jl o) → post 0) : wY_flows_78 post J (nI t) x2 (nI o) 0 (nI P) yC yA yL yQ yS yK yD ed cl py sk sa sb sc yi yv yo yn jl pc sv bk be := by
  unfold wY_flows_78
  rw [dl_c (show o < 2 ^ 31 by omega)]
  exact br_t rfl ⟨vp_in_nI (by omega) (by omega), dy_eff hP ho hA hc (dy_f99 hP ht ho hA hc h1 h0)⟩
theorem dy_f33 {post : Int32 → Prop} {J : Int32 → Prop} {x2 : Int32} {P t o : Nat} {D A : Nat → Int32} (hP : P ≤ 8) (ht : t < 20) (ho : o < P) (hA : dl_A P D A) (hc : dl_CA P cl A) (h1 : ((A o &&& yA) = 0 → dl_kp P A py t o (jl o)) → J (nI (o + 1))) (h0 : (A o &&& yA) = 0 → ¬ dl_kp P A py t o (jl o) → post 0) : ∃ n, wY_flows_33 post J (nI t) x2 (nI o) (nI P) yC yA yL yQ yS yK yD ed cl py sk sa sb sc yi yv yo yn jl pc sv bk be n 0 0 := by
  refine loop_0 (fun n i z => wY_flows_33 post J (nI t) x2 (nI o) (nI P) yC yA yL yQ yS yK yD ed cl py sk sa sb sc yi yv yo yn jl pc sv bk be n z (nI i)) (fun i z => (¬ z = 0 ↔ ∃ a, a < i ∧ bt yA a = true ∧ bt (A o) a = true) ∧ (z = 0 ∨ z = 1)) P 0 ?_ ?_ ?_
  · exact ⟨⟨fun z => absurd rfl z, fun ⟨_, w, _⟩ => absurd w (by omega)⟩, Or.inl rfl⟩
  · intro n z hz
    refine br_t (nI_le (Nat.le_refl _) (by omega)) ?_
    rcases hz.2 with e | e
    · subst e
      have q : (A o &&& yA) = 0 := (dl_au ho hP hA).mpr (fun w => hz.1.mpr w rfl)
      exact dy_f78 hP ht ho hA hc (fun k => h1 (fun _ => k)) (fun k => h0 q k)
    · subst e
      have q : ¬ (A o &&& yA) = 0 := fun w => (dl_au ho hP hA).mp w (hz.1.mp (by decide))
      exact br_f (by decide) (br_f (by decide) (nm_r (nI_1 o) (h1 (fun w => absurd w q))))
  · intro n i z hi hz ih
    have up : ∀ z' : Int32, (¬ z' = 0 ↔ (¬ z = 0 ∨ (bt yA i = true ∧ bt (A o) i = true))) → (z' = 0 ∨ z' = 1) → wY_flows_33 post J (nI t) x2 (nI o) (nI P) yC yA yL yQ yS yK yD ed cl py sk sa sb sc yi yv yo yn jl pc sv bk be n z' (nI (i + 1)) := by
      intro z' hz' h01
      refine ih z' ⟨?_, h01⟩
      rw [hz', hz.1]
      constructor
      · rintro (⟨k, w1, w2⟩ | w)
        · exact ⟨k, by omega, w2⟩
        · exact ⟨i, by omega, w⟩
      · rintro ⟨k, w1, w2⟩
        by_cases e : k = i
        · subst e
          exact Or.inr w2
        · exact Or.inl ⟨k, by omega, w2⟩
    have hio := hc i o hi ho
    refine br_f (nI_ge hi (by omega)) ?_
    rw [dl_m8 i o, dl_c (show i * 8 + o < 2 ^ 31 by omega)]
    exact br_c (fun y => nm_r (nI_1 i) (up z ⟨Or.inl, fun w => w.elim (fun u => u) (fun u => absurd u.1 (by rw [(dl_bs (by omega)).mp y]; decide))⟩ hz.2)) (fun y => ⟨vp_in_nI (by omega) (by omega), br_c (fun w => nm_r (nI_1 i) (up z ⟨Or.inl, fun v => v.elim (fun u => u) (fun u => absurd w (hio.mpr u.2))⟩ hz.2)) (fun w => nm_r (nI_1 i) (up 1 ⟨fun _ => Or.inr ⟨dl_nt (fun u => y ((dl_bs (by omega)).mpr u)), hio.mp w⟩, fun _ => by decide⟩ (Or.inr rfl)))⟩)
theorem dy_flows0 {post : Int32 → Prop} {P t : Nat} {D A : Nat → Int32} (hP : P ≤ 8) (ht : t < 20) (hA : dl_A P D A) (hc : dl_CA P cl A) (h1 : dl_fl P A py jl t 0 → post 1) (h0 : ¬ dl_fl P A py jl t 0 → post 0) : wpY_flows post (nI P, yC, yA, yL, yQ, yS, yK, yD, ed, cl, py, sk, sa, sb, sc, yi, yv, yo, yn, jl, pc, sv, bk, be) (nI t) 0 := by
  refine loop_0 (fun n i (_ : Unit) => wY_flows_2 post (nI t) 0 (nI P) yC yA yL yQ yS yK yD ed cl py sk sa sb sc yi yv yo yn jl pc sv bk be n (nI i)) (fun i _ => ∀ o, o < i → ¬ jl o = -1 → (A o &&& 0) = 0 → dl_kp P A py t o (jl o)) P () (fun o ho => absurd ho (by omega)) ?_ ?_
  · intro n _ ha
    exact br_t (nI_le (Nat.le_refl _) (by omega)) (h1 ha)
  · intro n i _ hi ha ih
    have nx : (¬ jl i = -1 → (A i &&& 0) = 0 → dl_kp P A py t i (jl i)) → wY_flows_2 post (nI t) 0 (nI P) yC yA yL yQ yS yK yD ed cl py sk sa sb sc yi yv yo yn jl pc sv bk be n (nI (i + 1)) := by
      intro z
      refine ih () (fun k hk => ?_)
      by_cases e : k = i
      · subst e
        exact z
      · exact ha k (by omega)
    have z0 : (A i &&& 0) = 0 := Int32.and_zero
    refine br_f (nI_ge hi (by omega)) ⟨vp_in_nI (by omega) (by omega), ?_⟩
    rw [dl_c (show i < 2 ^ 31 by omega)]
    exact br_c (fun z => nm_r (nI_1 i) (nx (fun w => absurd z w))) (fun z => br_t rfl (dy_f78 hP ht hi hA hc (fun k => nx (fun _ _ => k)) (fun k => h0 (fun w => k (w i hi z z0)))))
theorem dy_flows1 {post : Int32 → Prop} {P t : Nat} {D A : Nat → Int32} (hP : P ≤ 8) (ht : t < 20) (hA : dl_A P D A) (hc : dl_CA P cl A) (h1 : dl_fl P A py jl t yA → post 1) (h0 : ¬ dl_fl P A py jl t yA → post 0) : wpY_flows post (nI P, yC, yA, yL, yQ, yS, yK, yD, ed, cl, py, sk, sa, sb, sc, yi, yv, yo, yn, jl, pc, sv, bk, be) (nI t) 1 := by
  refine loop_0 (fun n i (_ : Unit) => wY_flows_2 post (nI t) 1 (nI P) yC yA yL yQ yS yK yD ed cl py sk sa sb sc yi yv yo yn jl pc sv bk be n (nI i)) (fun i _ => ∀ o, o < i → ¬ jl o = -1 → (A o &&& yA) = 0 → dl_kp P A py t o (jl o)) P () (fun o ho => absurd ho (by omega)) ?_ ?_
  · intro n _ ha
    exact br_t (nI_le (Nat.le_refl _) (by omega)) (h1 ha)
  · intro n i _ hi ha ih
    have nx : (¬ jl i = -1 → (A i &&& yA) = 0 → dl_kp P A py t i (jl i)) → wY_flows_2 post (nI t) 1 (nI P) yC yA yL yQ yS yK yD ed cl py sk sa sb sc yi yv yo yn jl pc sv bk be n (nI (i + 1)) := by
      intro z
      refine ih () (fun k hk => ?_)
      by_cases e : k = i
      · subst e
        exact z
      · exact ha k (by omega)
    refine br_f (nI_ge hi (by omega)) ⟨vp_in_nI (by omega) (by omega), ?_⟩
    rw [dl_c (show i < 2 ^ 31 by omega)]
    exact br_c (fun z => nm_r (nI_1 i) (nx (fun w => absurd z w))) (fun z => br_f (by decide) (dy_f33 hP ht hi hA hc (fun k => nx (fun _ => k)) (fun y k => h0 (fun w => k (w i hi z y)))))
/-! rows of labels -/
def dl_Y0 (jl : Nat → Int32) : Nat → Int32 := dl_row (fun _ => -1) jl 8
def dl_Yp (pc jl : Nat → Int32) (P : Nat) : Nat → Int32 := dl_row (fun o => jl o &&& pc o) jl P
def dl_Yt (py jl : Nat → Int32) (P t : Nat) : Nat → Int32 := dl_row (fun o => jl o &&& py (t * 8 + o)) jl P
theorem dl_am (x : Int32) : x &&& (-1) = x := by
  apply b_ext
  intro i hi
  rw [b_and, b_m1 i hi, Bool.and_true]
theorem dl_ma (x : Int32) : (-1) &&& x = x := by
  apply b_ext
  intro i hi
  rw [b_and, b_m1 i hi, Bool.true_and]
theorem dy_clear {post : SY → Prop} (h : post (yP, yC, yA, yL, yQ, yS, yK, yD, ed, cl, py, sk, sa, sb, sc, yi, yv, yo, yn, dl_Y0 jl, pc, sv, bk, be)) : wpY_clearJoin post (yP, yC, yA, yL, yQ, yS, yK, yD, ed, cl, py, sk, sa, sb, sc, yi, yv, yo, yn, jl, pc, sv, bk, be) := by
  refine loop_0 (fun n i a => wY_clearJoin_2 post yP yC yA yL yQ yS yK yD n (nI i) ed cl py sk sa sb sc yi yv yo yn a pc sv bk be) (fun i a => a = dl_row (fun _ => -1) jl i) 8 jl (dl_row_0 _ _).symm ?_ ?_
  · intro n a ha
    subst ha
    exact br_t (nI_le (a := 8) (b := 8) (by omega) (by omega)) h
  · intro n i a hi ha ih
    subst ha
    refine br_f (nI_ge (b := 8) hi (by omega)) ?_
    rw [dl_c (show i < 2 ^ 31 by omega)]
    exact ⟨vp_in_nI (by omega) (by omega), nm_e (nm_r (nI_1 i) (ih _ (dl_row_s rfl)))⟩
theorem dy_joinPc {post : SY → Prop} {P : Nat} (hP : P ≤ 8) (h : post (nI P, yC, yA, yL, yQ, yS, yK, yD, ed, cl, py, sk, sa, sb, sc, yi, yv, yo, yn, dl_Yp pc jl P, pc, sv, bk, be)) : wpY_joinPc post (nI P, yC, yA, yL, yQ, yS, yK, yD, ed, cl, py, sk, sa, sb, sc, yi, yv, yo, yn, jl, pc, sv, bk, be) := by
  refine loop_0 (fun n i a => wY_joinPc_2 post (nI P) yC yA yL yQ yS yK yD n (nI i) ed cl py sk sa sb sc yi yv yo yn a pc sv bk be) (fun i a => a = dl_row (fun o => jl o &&& pc o) jl i) P jl (dl_row_0 _ _).symm ?_ ?_
  · intro n a ha
    subst ha
    exact br_t (nI_le (Nat.le_refl _) (by omega)) h
  · intro n i a hi ha ih
    subst ha
    have v : vp_in (nI i) 8 := vp_in_nI (by omega) (by omega)
    refine br_f (nI_ge hi (by omega)) ⟨v, ?_⟩
    rw [dl_c (show i < 2 ^ 31 by omega), dl_row_n]
    exact nm_e (br_c (fun z => nm_r (nI_1 i) (ih _ (dl_row_k (by show jl i = jl i &&& pc i; rw [z, dl_am])))) (fun z => ⟨v, br_c (fun y => ⟨v, nm_e (nm_r (nI_1 i) (ih _ (dl_row_s (by show pc i = jl i &&& pc i; rw [y, dl_ma]))))⟩) (fun y => ⟨v, v, nm_e (nm_r (nI_1 i) (ih _ (dl_row_s rfl)))⟩)⟩))
theorem dy_joinT {post : SY → Prop} {P t : Nat} (hP : P ≤ 8) (ht : t < 20) (h : post (nI P, yC, yA, yL, yQ, yS, yK, yD, ed, cl, py, sk, sa, sb, sc, yi, yv, yo, yn, dl_Yt py jl P t, pc, sv, bk, be)) : wpY_joinTarget post (nI P, yC, yA, yL, yQ, yS, yK, yD, ed, cl, py, sk, sa, sb, sc, yi, yv, yo, yn, jl, pc, sv, bk, be) (nI t) := by
  refine loop_0 (fun n i a => wY_joinTarget_2 post (nI t) (nI P) yC yA yL yQ yS yK yD n (nI i) ed cl py sk sa sb sc yi yv yo yn a pc sv bk be) (fun i a => a = dl_row (fun o => jl o &&& py (t * 8 + o)) jl i) P jl (dl_row_0 _ _).symm ?_ ?_
  · intro n a ha
    subst ha
    exact br_t (nI_le (Nat.le_refl _) (by omega)) h
  · intro n i a hi ha ih
    subst ha
    have v : vp_in (nI i) 8 := vp_in_nI (by omega) (by omega)
    refine br_f (nI_ge hi (by omega)) ?_
    rw [dl_m8 t i, dl_c (show t * 8 + i < 2 ^ 31 by omega), dl_c (show i < 2 ^ 31 by omega), dl_row_n]
    exact ⟨vp_in_nI (by omega) (by omega), nm_e (br_c (fun z => nm_r (nI_1 i) (ih _ (dl_row_k (by show jl i = jl i &&& py (t * 8 + i); rw [z, dl_am])))) (fun z => ⟨v, br_c (fun y => ⟨v, nm_e (nm_r (nI_1 i) (ih _ (dl_row_s (by show py (t * 8 + i) = jl i &&& py (t * 8 + i); rw [y, dl_ma]))))⟩) (fun y => ⟨v, v, nm_e (nm_r (nI_1 i) (ih _ (dl_row_s rfl)))⟩)⟩))⟩
end
end
section
/-! one statement of a check: the reference, then both sides -/
section
variable {xP xC xA xL xO xQ xS xK yP yC yA yL yQ yS yK yD : Int32} {dA aA po st jm pl op el so ip va ov oc ed cl py sk sa sb sc yi yv yo yn jl pc sv bk be : Nat → Int32}
theorem dy_st1 {P i t : Nat} {post : Int32 → SY → Prop} {D A : Nat → Int32} (hP : P ≤ 8) (hi : i < 64) (hA : dl_A P D A) (hc : dl_CA P cl A) (hk : sk i = 1) (ha : sa i = nI t) (ht : t < 20) (h0 : dl_fl P A py (dl_Yp pc (dl_Y0 jl) P) t 0 → post 0 (nI P, yC, yA, yL, yQ, yS, yK, yD, ed, cl, py, sk, sa, sb, sc, yi, yv, yo, yn, dl_Yp pc (dl_Y0 jl) P, pc, sv, bk, be)) (h3 : ¬ dl_fl P A py (dl_Yp pc (dl_Y0 jl) P) t 0 → post 3 (nI P, yC, yA, yL, yQ, yS, yK, yD, ed, cl, py, sk, sa, sb, sc, yi, yv, yo, yn, dl_Yp pc (dl_Y0 jl) P, pc, sv, bk, be)) : wpY_checkOne post (nI P, yC, yA, yL, yQ, yS, yK, yD, ed, cl, py, sk, sa, sb, sc, yi, yv, yo, yn, jl, pc, sv, bk, be) (nI i) := by
  unfold wpY_checkOne
  have v : vp_in (nI i) 64 := vp_in_nI hi (by omega)
  have c := dl_c (show i < 2 ^ 31 by omega)
  refine ⟨v, nm_r (e' := 1) (by rw [c]; exact hk) ⟨v, nm_r (e' := nI t) (by rw [c]; exact ha) ⟨v, nm_e ⟨v, nm_e (br_f (by decide) (br_f (by decide) (br_f (by decide) (br_f (by decide) (dy_clear (dy_joinPc hP (br_t rfl (dy_flows0 hP ht hA hc (fun z => br_f (by decide) (h0 z)) (fun z => br_t rfl (h3 z))))))))))⟩⟩⟩⟩
theorem dy_st2 {P i t b : Nat} {post : Int32 → SY → Prop} {D A : Nat → Int32} (hP : P ≤ 8) (hi : i < 64) (hA : dl_A P D A) (hc : dl_CA P cl A) (hk : sk i = 2) (ha : sa i = nI t) (hb : sb i = nI b) (ht : t < 20) (hb' : b < 20) (h0 : dl_fl P A py (dl_Yt py (dl_Yp pc (dl_Y0 jl) P) P b) t 0 → post 0 (nI P, yC, yA, yL, yQ, yS, yK, yD, ed, cl, py, sk, sa, sb, sc, yi, yv, yo, yn, dl_Yt py (dl_Yp pc (dl_Y0 jl) P) P b, pc, sv, bk, be)) (h3 : ¬ dl_fl P A py (dl_Yt py (dl_Yp pc (dl_Y0 jl) P) P b) t 0 → post 3 (nI P, yC, yA, yL, yQ, yS, yK, yD, ed, cl, py, sk, sa, sb, sc, yi, yv, yo, yn, dl_Yt py (dl_Yp pc (dl_Y0 jl) P) P b, pc, sv, bk, be)) : wpY_checkOne post (nI P, yC, yA, yL, yQ, yS, yK, yD, ed, cl, py, sk, sa, sb, sc, yi, yv, yo, yn, jl, pc, sv, bk, be) (nI i) := by
  unfold wpY_checkOne
  have v : vp_in (nI i) 64 := vp_in_nI hi (by omega)
  have c := dl_c (show i < 2 ^ 31 by omega)
  refine ⟨v, nm_r (e' := 2) (by rw [c]; exact hk) ⟨v, nm_r (e' := nI t) (by rw [c]; exact ha) ⟨v, nm_r (e' := nI b) (by rw [c]; exact hb) ⟨v, nm_e (br_f (by decide) (br_f (by decide) (br_f (by decide) (br_f (by decide) (dy_clear (dy_joinPc hP (br_f (by decide) (br_t rfl (dy_joinT hP hb' (dy_flows0 hP ht hA hc (fun z => br_f (by decide) (h0 z)) (fun z => br_t rfl (h3 z))))))))))))⟩⟩⟩⟩
theorem dy_st3 {P i t b c2 : Nat} {post : Int32 → SY → Prop} {D A : Nat → Int32} (hP : P ≤ 8) (hi : i < 64) (hA : dl_A P D A) (hc : dl_CA P cl A) (hk : sk i = 3) (ha : sa i = nI t) (hb : sb i = nI b) (hc2 : sc i = nI c2) (ht : t < 20) (hb' : b < 20) (hc' : c2 < 20) (h0 : dl_fl P A py (dl_Yt py (dl_Yt py (dl_Yp pc (dl_Y0 jl) P) P b) P c2) t 0 → post 0 (nI P, yC, yA, yL, yQ, yS, yK, yD, ed, cl, py, sk, sa, sb, sc, yi, yv, yo, yn, dl_Yt py (dl_Yt py (dl_Yp pc (dl_Y0 jl) P) P b) P c2, pc, sv, bk, be)) (h3 : ¬ dl_fl P A py (dl_Yt py (dl_Yt py (dl_Yp pc (dl_Y0 jl) P) P b) P c2) t 0 → post 3 (nI P, yC, yA, yL, yQ, yS, yK, yD, ed, cl, py, sk, sa, sb, sc, yi, yv, yo, yn, dl_Yt py (dl_Yt py (dl_Yp pc (dl_Y0 jl) P) P b) P c2, pc, sv, bk, be)) : wpY_checkOne post (nI P, yC, yA, yL, yQ, yS, yK, yD, ed, cl, py, sk, sa, sb, sc, yi, yv, yo, yn, jl, pc, sv, bk, be) (nI i) := by
  unfold wpY_checkOne
  have v : vp_in (nI i) 64 := vp_in_nI hi (by omega)
  have c := dl_c (show i < 2 ^ 31 by omega)
  refine ⟨v, nm_r (e' := 3) (by rw [c]; exact hk) ⟨v, nm_r (e' := nI t) (by rw [c]; exact ha) ⟨v, nm_r (e' := nI b) (by rw [c]; exact hb) ⟨v, nm_r (e' := nI c2) (by rw [c]; exact hc2) (br_f (by decide) (br_f (by decide) (br_f (by decide) (br_f (by decide) (dy_clear (dy_joinPc hP (br_f (by decide) (br_f (by decide) (br_f (by decide) (br_f (by decide) (dy_joinT hP hb' (dy_joinT hP hc' (dy_flows0 hP ht hA hc (fun z => br_f (by decide) (h0 z)) (fun z => br_t rfl (h3 z)))))))))))))))⟩⟩⟩⟩
theorem dy_st4 {P i t b c2 : Nat} {post : Int32 → SY → Prop} {D A : Nat → Int32} (hP : P ≤ 8) (hi : i < 64) (hA : dl_A P D A) (hc : dl_CA P cl A) (hk : sk i = 4) (ha : sa i = nI t) (hb : sb i = nI b) (hc2 : sc i = nI c2) (ht : t < 20) (hb' : b < 20) (hc' : c2 < 20) (h0 : dl_fl P A py (dl_Yt py (dl_Yt py (dl_Yp pc (dl_Y0 jl) P) P b) P c2) t 0 → post 0 (nI P, yC, yA, yL, yQ, yS, yK, yD, ed, cl, py, sk, sa, sb, sc, yi, yv, yo, yn, dl_Yt py (dl_Yt py (dl_Yp pc (dl_Y0 jl) P) P b) P c2, pc, sv, bk, be)) (h3 : ¬ dl_fl P A py (dl_Yt py (dl_Yt py (dl_Yp pc (dl_Y0 jl) P) P b) P c2) t 0 → post 3 (nI P, yC, yA, yL, yQ, yS, yK, yD, ed, cl, py, sk, sa, sb, sc, yi, yv, yo, yn, dl_Yt py (dl_Yt py (dl_Yp pc (dl_Y0 jl) P) P b) P c2, pc, sv, bk, be)) : wpY_checkOne post (nI P, yC, yA, yL, yQ, yS, yK, yD, ed, cl, py, sk, sa, sb, sc, yi, yv, yo, yn, jl, pc, sv, bk, be) (nI i) := by
  unfold wpY_checkOne
  have v : vp_in (nI i) 64 := vp_in_nI hi (by omega)
  have c := dl_c (show i < 2 ^ 31 by omega)
  refine ⟨v, nm_r (e' := 4) (by rw [c]; exact hk) ⟨v, nm_r (e' := nI t) (by rw [c]; exact ha) ⟨v, nm_r (e' := nI b) (by rw [c]; exact hb) ⟨v, nm_r (e' := nI c2) (by rw [c]; exact hc2) (br_f (by decide) (br_f (by decide) (br_f (by decide) (br_f (by decide) (dy_clear (dy_joinPc hP (br_f (by decide) (br_f (by decide) (br_f (by decide) (br_f (by decide) (dy_joinT hP hb' (dy_joinT hP hc' (dy_flows0 hP ht hA hc (fun z => br_f (by decide) (h0 z)) (fun z => br_t rfl (h3 z)))))))))))))))⟩⟩⟩⟩
theorem dy_st5 {P i t b c2 : Nat} {post : Int32 → SY → Prop} {D A : Nat → Int32} (hP : P ≤ 8) (hi : i < 64) (hA : dl_A P D A) (hc : dl_CA P cl A) (hk : sk i = 5) (ha : sa i = nI t) (hb : sb i = nI b) (hc2 : sc i = nI c2) (ht : t < 20) (hb' : b < 20) (hc' : c2 < 20) (h0 : dl_fl P A py (dl_Yt py (dl_Yt py (dl_Yp pc (dl_Y0 jl) P) P b) P c2) t 0 → post 0 (nI P, yC, yA, yL, yQ, yS, yK, yD, ed, cl, py, sk, sa, sb, sc, yi, yv, yo, yn, dl_Yt py (dl_Yt py (dl_Yp pc (dl_Y0 jl) P) P b) P c2, pc, sv, bk, be)) (h3 : ¬ dl_fl P A py (dl_Yt py (dl_Yt py (dl_Yp pc (dl_Y0 jl) P) P b) P c2) t 0 → post 3 (nI P, yC, yA, yL, yQ, yS, yK, yD, ed, cl, py, sk, sa, sb, sc, yi, yv, yo, yn, dl_Yt py (dl_Yt py (dl_Yp pc (dl_Y0 jl) P) P b) P c2, pc, sv, bk, be)) : wpY_checkOne post (nI P, yC, yA, yL, yQ, yS, yK, yD, ed, cl, py, sk, sa, sb, sc, yi, yv, yo, yn, jl, pc, sv, bk, be) (nI i) := by
  unfold wpY_checkOne
  have v : vp_in (nI i) 64 := vp_in_nI hi (by omega)
  have c := dl_c (show i < 2 ^ 31 by omega)
  refine ⟨v, nm_r (e' := 5) (by rw [c]; exact hk) ⟨v, nm_r (e' := nI t) (by rw [c]; exact ha) ⟨v, nm_r (e' := nI b) (by rw [c]; exact hb) ⟨v, nm_r (e' := nI c2) (by rw [c]; exact hc2) (br_f (by decide) (br_f (by decide) (br_f (by decide) (br_f (by decide) (dy_clear (dy_joinPc hP (br_f (by decide) (br_f (by decide) (br_f (by decide) (br_f (by decide) (dy_joinT hP hb' (dy_joinT hP hc' (dy_flows0 hP ht hA hc (fun z => br_f (by decide) (h0 z)) (fun z => br_t rfl (h3 z)))))))))))))))⟩⟩⟩⟩
theorem dy_st6 {P i t b c2 : Nat} {post : Int32 → SY → Prop} {D A : Nat → Int32} (hP : P ≤ 8) (hi : i < 64) (hA : dl_A P D A) (hc : dl_CA P cl A) (hk : sk i = 6) (ha : sa i = nI t) (hb : sb i = nI b) (hc2 : sc i = nI c2) (ht : t < 20) (hb' : b < 20) (hc' : c2 < 20) (h0 : dl_fl P A py (dl_Yt py (dl_Yt py (dl_Yp pc (dl_Y0 jl) P) P b) P c2) t 0 → post 0 (nI P, yC, yA, yL, yQ, yS, yK, yD, ed, cl, py, sk, sa, sb, sc, yi, yv, yo, yn, dl_Yt py (dl_Yt py (dl_Yp pc (dl_Y0 jl) P) P b) P c2, pc, sv, bk, be)) (h3 : ¬ dl_fl P A py (dl_Yt py (dl_Yt py (dl_Yp pc (dl_Y0 jl) P) P b) P c2) t 0 → post 3 (nI P, yC, yA, yL, yQ, yS, yK, yD, ed, cl, py, sk, sa, sb, sc, yi, yv, yo, yn, dl_Yt py (dl_Yt py (dl_Yp pc (dl_Y0 jl) P) P b) P c2, pc, sv, bk, be)) : wpY_checkOne post (nI P, yC, yA, yL, yQ, yS, yK, yD, ed, cl, py, sk, sa, sb, sc, yi, yv, yo, yn, jl, pc, sv, bk, be) (nI i) := by
  unfold wpY_checkOne
  have v : vp_in (nI i) 64 := vp_in_nI hi (by omega)
  have c := dl_c (show i < 2 ^ 31 by omega)
  refine ⟨v, nm_r (e' := 6) (by rw [c]; exact hk) ⟨v, nm_r (e' := nI t) (by rw [c]; exact ha) ⟨v, nm_r (e' := nI b) (by rw [c]; exact hb) ⟨v, nm_r (e' := nI c2) (by rw [c]; exact hc2) (br_f (by decide) (br_f (by decide) (br_f (by decide) (br_f (by decide) (dy_clear (dy_joinPc hP (br_f (by decide) (br_f (by decide) (br_f (by decide) (br_f (by decide) (dy_joinT hP hb' (dy_joinT hP hc' (dy_flows0 hP ht hA hc (fun z => br_f (by decide) (h0 z)) (fun z => br_t rfl (h3 z)))))))))))))))⟩⟩⟩⟩
theorem dy_st7 {P i t b c2 : Nat} {post : Int32 → SY → Prop} {D A : Nat → Int32} (hP : P ≤ 8) (hi : i < 64) (hA : dl_A P D A) (hc : dl_CA P cl A) (hk : sk i = 7) (ha : sa i = nI t) (hb : sb i = nI b) (hc2 : sc i = nI c2) (ht : t < 20) (hb' : b < 20) (hc' : c2 < 20) (h0 : dl_fl P A py (dl_Yt py (dl_Yt py (dl_Yp pc (dl_Y0 jl) P) P b) P c2) t 0 → post 0 (nI P, yC, yA, yL, yQ, yS, yK, yD, ed, cl, py, sk, sa, sb, sc, yi, yv, yo, yn, dl_Yt py (dl_Yt py (dl_Yp pc (dl_Y0 jl) P) P b) P c2, pc, sv, bk, be)) (h3 : ¬ dl_fl P A py (dl_Yt py (dl_Yt py (dl_Yp pc (dl_Y0 jl) P) P b) P c2) t 0 → post 3 (nI P, yC, yA, yL, yQ, yS, yK, yD, ed, cl, py, sk, sa, sb, sc, yi, yv, yo, yn, dl_Yt py (dl_Yt py (dl_Yp pc (dl_Y0 jl) P) P b) P c2, pc, sv, bk, be)) : wpY_checkOne post (nI P, yC, yA, yL, yQ, yS, yK, yD, ed, cl, py, sk, sa, sb, sc, yi, yv, yo, yn, jl, pc, sv, bk, be) (nI i) := by
  unfold wpY_checkOne
  have v : vp_in (nI i) 64 := vp_in_nI hi (by omega)
  have c := dl_c (show i < 2 ^ 31 by omega)
  refine ⟨v, nm_r (e' := 7) (by rw [c]; exact hk) ⟨v, nm_r (e' := nI t) (by rw [c]; exact ha) ⟨v, nm_r (e' := nI b) (by rw [c]; exact hb) ⟨v, nm_r (e' := nI c2) (by rw [c]; exact hc2) (br_f (by decide) (br_f (by decide) (br_f (by decide) (br_f (by decide) (dy_clear (dy_joinPc hP (br_f (by decide) (br_f (by decide) (br_f (by decide) (br_f (by decide) (dy_joinT hP hb' (dy_joinT hP hc' (dy_flows0 hP ht hA hc (fun z => br_f (by decide) (h0 z)) (fun z => br_t rfl (h3 z)))))))))))))))⟩⟩⟩⟩
theorem dy_st12 {P i t b : Nat} {post : Int32 → SY → Prop} {D A : Nat → Int32} (hP : P ≤ 8) (hi : i < 64) (hA : dl_A P D A) (hc : dl_CA P cl A) (hk : sk i = 12) (ha : sa i = nI t) (hb : sb i = nI b) (ht : t < 4) (hb' : b < 20) (h0 : dl_fl P A py (dl_Yt py (dl_Yp pc (dl_Y0 jl) P) P b) (16 + t) 0 → post 0 (nI P, yC, yA, yL, yQ, yS, yK, yD, ed, cl, py, sk, sa, sb, sc, yi, yv, yo, yn, dl_Yt py (dl_Yp pc (dl_Y0 jl) P) P b, pc, sv, bk, be)) (h3 : ¬ dl_fl P A py (dl_Yt py (dl_Yp pc (dl_Y0 jl) P) P b) (16 + t) 0 → post 3 (nI P, yC, yA, yL, yQ, yS, yK, yD, ed, cl, py, sk, sa, sb, sc, yi, yv, yo, yn, dl_Yt py (dl_Yp pc (dl_Y0 jl) P) P b, pc, sv, bk, be)) : wpY_checkOne post (nI P, yC, yA, yL, yQ, yS, yK, yD, ed, cl, py, sk, sa, sb, sc, yi, yv, yo, yn, jl, pc, sv, bk, be) (nI i) := by
  unfold wpY_checkOne
  have v : vp_in (nI i) 64 := vp_in_nI hi (by omega)
  have c := dl_c (show i < 2 ^ 31 by omega)
  refine ⟨v, nm_r (e' := 12) (by rw [c]; exact hk) ⟨v, nm_r (e' := nI t) (by rw [c]; exact ha) ⟨v, nm_r (e' := nI b) (by rw [c]; exact hb) ⟨v, nm_e (br_f (by decide) (br_f (by decide) (br_f (by decide) (br_f (by decide) (dy_clear (dy_joinPc hP (br_f (by decide) (br_f (by decide) (br_f (by decide) (br_t (by decide) (br_t rfl (dy_joinT hP hb' ?_))))))))))))⟩⟩⟩⟩
  have e16 : (16 : Int32) + nI t = nI (16 + t) := nI_add 16 t
  show wpY_flows _ _ (16 + nI t) 0
  rw [e16]
  exact dy_flows0 hP (by omega) hA hc (fun z => br_f (by decide) (h0 z)) (fun z => br_t rfl (h3 z))
theorem dy_st13 {P i t b : Nat} {post : Int32 → SY → Prop} {D A : Nat → Int32} (hP : P ≤ 8) (hi : i < 64) (hA : dl_A P D A) (hc : dl_CA P cl A) (hk : sk i = 13) (ha : sa i = nI t) (hb : sb i = nI b) (ht : t < 20) (hb' : b < 20) (h3 : ¬ dl_fl P A py (dl_Yp pc (dl_Y0 jl) P) t 0 → post 3 (nI P, yC, yA, yL, yQ, yS, yK, yD, ed, cl, py, sk, sa, sb, sc, yi, yv, yo, yn, dl_Yp pc (dl_Y0 jl) P, pc, sv, bk, be)) (h4 : dl_fl P A py (dl_Yp pc (dl_Y0 jl) P) t 0 → ¬ dl_fl P A py (dl_Yt py (dl_Y0 (dl_Yp pc (dl_Y0 jl) P)) P b) t yA → post 4 (nI P, yC, yA, yL, yQ, yS, yK, yD, ed, cl, py, sk, sa, sb, sc, yi, yv, yo, yn, dl_Yt py (dl_Y0 (dl_Yp pc (dl_Y0 jl) P)) P b, pc, sv, bk, be)) (h0 : dl_fl P A py (dl_Yp pc (dl_Y0 jl) P) t 0 → dl_fl P A py (dl_Yt py (dl_Y0 (dl_Yp pc (dl_Y0 jl) P)) P b) t yA → post 0 (nI P, yC, yA, yL, yQ, yS, yK, yD, ed, cl, py, sk, sa, sb, sc, yi, yv, yo, yn, dl_Yt py (dl_Y0 (dl_Yp pc (dl_Y0 jl) P)) P b, pc, sv, bk, be)) : wpY_checkOne post (nI P, yC, yA, yL, yQ, yS, yK, yD, ed, cl, py, sk, sa, sb, sc, yi, yv, yo, yn, jl, pc, sv, bk, be) (nI i) := by
  unfold wpY_checkOne
  have v : vp_in (nI i) 64 := vp_in_nI hi (by omega)
  have c := dl_c (show i < 2 ^ 31 by omega)
  refine ⟨v, nm_r (e' := 13) (by rw [c]; exact hk) ⟨v, nm_r (e' := nI t) (by rw [c]; exact ha) ⟨v, nm_r (e' := nI b) (by rw [c]; exact hb) ⟨v, nm_e (br_f (by decide) (br_f (by decide) (br_f (by decide) (br_f (by decide) (dy_clear (dy_joinPc hP (br_f (by decide) (br_f (by decide) (br_f (by decide) (br_t (by decide) (br_f (by decide) (dy_flows0 hP ht hA hc (fun z => br_f (by decide) (dy_clear (dy_joinT hP hb' (dy_flows1 hP ht hA hc (fun y => br_f (by decide) (h0 z y)) (fun y => br_t rfl (h4 z y)))))) (fun z => br_t rfl (h3 z))))))))))))))⟩⟩⟩⟩
theorem dy_open {post : Int32 → SY → Prop} {P dd t : Nat} {kk : Int32} (hP : P ≤ 8) (hD : dd < 8) (ht : t < 20) (h : post 0 (nI P, yC, yA, yL, yQ, yS, yK, nI (dd + 1), ed, cl, py, sk, sa, sb, sc, yi, yv, yo, yn, dl_Yt py (dl_Yp pc (dl_Y0 jl) P) P t, dl_row (dl_Yt py (dl_Yp pc (dl_Y0 jl) P) P t) pc 8, dl_seg pc sv (dd * 8) 8, upd bk dd kk, upd be dd 0)) : wY_checkOne_42 post kk (nI t) (nI P) yC yA yL yQ yS yK (nI dd) ed cl py sk sa sb sc yi yv yo yn jl pc sv bk be := by
  unfold wY_checkOne_42
  have cD := dl_c (show dd < 2 ^ 31 by omega)
  have vD : vp_in (nI dd) 8 := vp_in_nI hD (by omega)
  refine br_t (nI_lt (b := 8) hD (by omega)) ?_
  refine loop_0 (fun n k a => wY_checkOne_56 post kk (nI t) (nI P) yC yA yL yQ yS yK (nI dd) n (nI k) ed cl py sk sa sb sc yi yv yo yn jl pc a bk be) (fun k a => a = dl_seg pc sv (dd * 8) k) 8 sv (dl_seg_0 _ _ _).symm ?_ ?_
  · intro n a ha
    subst ha
    refine br_t (nI_le (a := 8) (b := 8) (by omega) (by omega)) ⟨vD, nm_r (e' := upd bk dd kk) (by rw [cD]) ⟨vD, nm_r (e' := upd be dd 0) (by rw [cD, dl_vb0]) (nm_r (nI_1 dd) (dy_clear (dy_joinPc hP (dy_joinT hP ht ?_))))⟩⟩
    refine loop_0 (fun n k a => wY_checkOne_137 post (nI P) yC yA yL yQ yS yK (nI (dd + 1)) n (nI k) ed cl py sk sa sb sc yi yv yo yn (dl_Yt py (dl_Yp pc (dl_Y0 jl) P) P t) a (dl_seg pc sv (dd * 8) 8) (upd bk dd kk) (upd be dd 0)) (fun k a => a = dl_row (dl_Yt py (dl_Yp pc (dl_Y0 jl) P) P t) pc k) 8 pc (dl_row_0 _ _).symm ?_ ?_
    · intro n a ha
      subst ha
      exact br_t (nI_le (a := 8) (b := 8) (by omega) (by omega)) h
    · intro n k a hk ha ih
      subst ha
      refine br_f (nI_ge (b := 8) hk (by omega)) ?_
      rw [dl_c (show k < 2 ^ 31 by omega)]
      exact ⟨vp_in_nI hk (by omega), vp_in_nI hk (by omega), nm_e (nm_r (nI_1 k) (ih _ (dl_row_s rfl)))⟩
  · intro n k a hk ha ih
    subst ha
    refine br_f (nI_ge (b := 8) hk (by omega)) ?_
    rw [dl_m8, dl_c (show dd * 8 + k < 2 ^ 31 by omega), dl_c (show k < 2 ^ 31 by omega)]
    exact ⟨vp_in_nI (by omega) (by omega), vp_in_nI (by omega) (by omega), nm_e (nm_r (nI_1 k) (ih _ (dl_seg_s rfl)))⟩
theorem dy_st8 {post : Int32 → SY → Prop} {P dd i t : Nat} (hP : P ≤ 8) (hD : dd < 8) (hi : i < 64) (hk : sk i = 8) (ha : sa i = nI t) (ht : t < 20) (h : post 0 (nI P, yC, yA, yL, yQ, yS, yK, nI (dd + 1), ed, cl, py, sk, sa, sb, sc, yi, yv, yo, yn, dl_Yt py (dl_Yp pc (dl_Y0 jl) P) P t, dl_row (dl_Yt py (dl_Yp pc (dl_Y0 jl) P) P t) pc 8, dl_seg pc sv (dd * 8) 8, upd bk dd 8, upd be dd 0)) : wpY_checkOne post (nI P, yC, yA, yL, yQ, yS, yK, nI dd, ed, cl, py, sk, sa, sb, sc, yi, yv, yo, yn, jl, pc, sv, bk, be) (nI i) := by
  unfold wpY_checkOne
  have v : vp_in (nI i) 64 := vp_in_nI hi (by omega)
  have c := dl_c (show i < 2 ^ 31 by omega)
  refine ⟨v, nm_r (e' := 8) (by rw [c]; exact hk) ⟨v, nm_r (e' := nI t) (by rw [c]; exact ha) ⟨v, nm_e ⟨v, nm_e (br_t rfl (dy_open hP hD ht h))⟩⟩⟩⟩
theorem dy_st88 {post : Int32 → SY → Prop} {i : Nat} (hi : i < 64) (hk : sk i = 8) (h : post 2 (yP, yC, yA, yL, yQ, yS, yK, nI 8, ed, cl, py, sk, sa, sb, sc, yi, yv, yo, yn, jl, pc, sv, bk, be)) : wpY_checkOne post (yP, yC, yA, yL, yQ, yS, yK, nI 8, ed, cl, py, sk, sa, sb, sc, yi, yv, yo, yn, jl, pc, sv, bk, be) (nI i) := by
  unfold wpY_checkOne
  have v : vp_in (nI i) 64 := vp_in_nI hi (by omega)
  have c := dl_c (show i < 2 ^ 31 by omega)
  refine ⟨v, nm_r (e' := 8) (by rw [c]; exact hk) ⟨v, nm_e ⟨v, nm_e ⟨v, nm_e (br_t rfl (br_f (nI_nlt (b := 8) (Nat.le_refl _) (by omega)) h))⟩⟩⟩⟩
theorem dy_st11 {post : Int32 → SY → Prop} {P dd i t : Nat} (hP : P ≤ 8) (hD : dd < 8) (hi : i < 64) (hk : sk i = 11) (ha : sa i = nI t) (ht : t < 20) (h : post 0 (nI P, yC, yA, yL, yQ, yS, yK, nI (dd + 1), ed, cl, py, sk, sa, sb, sc, yi, yv, yo, yn, dl_Yt py (dl_Yp pc (dl_Y0 jl) P) P t, dl_row (dl_Yt py (dl_Yp pc (dl_Y0 jl) P) P t) pc 8, dl_seg pc sv (dd * 8) 8, upd bk dd 11, upd be dd 0)) : wpY_checkOne post (nI P, yC, yA, yL, yQ, yS, yK, nI dd, ed, cl, py, sk, sa, sb, sc, yi, yv, yo, yn, jl, pc, sv, bk, be) (nI i) := by
  unfold wpY_checkOne
  have v : vp_in (nI i) 64 := vp_in_nI hi (by omega)
  have c := dl_c (show i < 2 ^ 31 by omega)
  refine ⟨v, nm_r (e' := 11) (by rw [c]; exact hk) ⟨v, nm_r (e' := nI t) (by rw [c]; exact ha) ⟨v, nm_e ⟨v, nm_e (br_f (by decide) (br_t rfl (dy_open hP hD ht h)))⟩⟩⟩⟩
theorem dy_st118 {post : Int32 → SY → Prop} {i : Nat} (hi : i < 64) (hk : sk i = 11) (h : post 2 (yP, yC, yA, yL, yQ, yS, yK, nI 8, ed, cl, py, sk, sa, sb, sc, yi, yv, yo, yn, jl, pc, sv, bk, be)) : wpY_checkOne post (yP, yC, yA, yL, yQ, yS, yK, nI 8, ed, cl, py, sk, sa, sb, sc, yi, yv, yo, yn, jl, pc, sv, bk, be) (nI i) := by
  unfold wpY_checkOne
  have v : vp_in (nI i) 64 := vp_in_nI hi (by omega)
  have c := dl_c (show i < 2 ^ 31 by omega)
  refine ⟨v, nm_r (e' := 11) (by rw [c]; exact hk) ⟨v, nm_e ⟨v, nm_e ⟨v, nm_e (br_f (by decide) (br_t rfl (br_f (nI_nlt (b := 8) (Nat.le_refl _) (by omega)) h)))⟩⟩⟩⟩
theorem dy_st90 {post : Int32 → SY → Prop} {i : Nat} (hi : i < 64) (hk : sk i = 9) (h : post 1 (yP, yC, yA, yL, yQ, yS, yK, nI 0, ed, cl, py, sk, sa, sb, sc, yi, yv, yo, yn, jl, pc, sv, bk, be)) : wpY_checkOne post (yP, yC, yA, yL, yQ, yS, yK, nI 0, ed, cl, py, sk, sa, sb, sc, yi, yv, yo, yn, jl, pc, sv, bk, be) (nI i) := by
  unfold wpY_checkOne
  have v : vp_in (nI i) 64 := vp_in_nI hi (by omega)
  have c := dl_c (show i < 2 ^ 31 by omega)
  refine ⟨v, nm_r (e' := 9) (by rw [c]; exact hk) ⟨v, nm_e ⟨v, nm_e ⟨v, nm_e (br_f (by decide) (br_f (by decide) (br_t rfl (br_t nI_0 h))))⟩⟩⟩⟩
theorem dy_st9 {post : Int32 → SY → Prop} {dd i : Nat} (hD : dd < 8) (hi : i < 64) (hk : sk i = 9) (h1 : (bk dd = 11 ∨ ¬ be dd = 0) → post 1 (yP, yC, yA, yL, yQ, yS, yK, nI (dd + 1), ed, cl, py, sk, sa, sb, sc, yi, yv, yo, yn, jl, pc, sv, bk, be)) (h0 : ¬ bk dd = 11 → be dd = 0 → post 0 (yP, yC, yA, yL, yQ, yS, yK, nI (dd + 1), ed, cl, py, sk, sa, sb, sc, yi, yv, yo, yn, jl, pc, sv, bk, upd be dd 1)) : wpY_checkOne post (yP, yC, yA, yL, yQ, yS, yK, nI (dd + 1), ed, cl, py, sk, sa, sb, sc, yi, yv, yo, yn, jl, pc, sv, bk, be) (nI i) := by
  unfold wpY_checkOne
  have v : vp_in (nI i) 64 := vp_in_nI hi (by omega)
  have c := dl_c (show i < 2 ^ 31 by omega)
  refine ⟨v, nm_r (e' := 9) (by rw [c]; exact hk) ⟨v, nm_e ⟨v, nm_e ⟨v, nm_e (br_f (by decide) (br_f (by decide) (br_t rfl (br_f (nI_ne0 (by omega) (by omega)) ?_))))⟩⟩⟩⟩
  have vD : vp_in (nI dd) 8 := vp_in_nI hD (by omega)
  have cD := dl_c (show dd < 2 ^ 31 by omega)
  rw [nI_pred dd, cD]
  exact ⟨vD, br_c (fun z => h1 (Or.inl z)) (fun z => ⟨vD, br_c (fun y => ⟨vD, nm_r (e' := upd be dd 1) (by rw [dl_vb1]) (h0 z y)⟩) (fun y => h1 (Or.inr y))⟩)⟩
theorem dy_st100 {post : Int32 → SY → Prop} {i : Nat} (hi : i < 64) (hk : sk i = 10) (h : post 1 (yP, yC, yA, yL, yQ, yS, yK, nI 0, ed, cl, py, sk, sa, sb, sc, yi, yv, yo, yn, jl, pc, sv, bk, be)) : wpY_checkOne post (yP, yC, yA, yL, yQ, yS, yK, nI 0, ed, cl, py, sk, sa, sb, sc, yi, yv, yo, yn, jl, pc, sv, bk, be) (nI i) := by
  unfold wpY_checkOne
  have v : vp_in (nI i) 64 := vp_in_nI hi (by omega)
  have c := dl_c (show i < 2 ^ 31 by omega)
  refine ⟨v, nm_r (e' := 10) (by rw [c]; exact hk) ⟨v, nm_e ⟨v, nm_e ⟨v, nm_e (br_f (by decide) (br_f (by decide) (br_f (by decide) (br_t rfl (br_t nI_0 h)))))⟩⟩⟩⟩
theorem dy_st10 {post : Int32 → SY → Prop} {dd i : Nat} (hD : dd < 8) (hi : i < 64) (hk : sk i = 10) (h : post 0 (yP, yC, yA, yL, yQ, yS, yK, nI dd, ed, cl, py, sk, sa, sb, sc, yi, yv, yo, yn, jl, dl_row (fun o => sv (dd * 8 + o)) pc 8, sv, bk, be)) : wpY_checkOne post (yP, yC, yA, yL, yQ, yS, yK, nI (dd + 1), ed, cl, py, sk, sa, sb, sc, yi, yv, yo, yn, jl, pc, sv, bk, be) (nI i) := by
  unfold wpY_checkOne
  have v : vp_in (nI i) 64 := vp_in_nI hi (by omega)
  have c := dl_c (show i < 2 ^ 31 by omega)
  refine ⟨v, nm_r (e' := 10) (by rw [c]; exact hk) ⟨v, nm_e ⟨v, nm_e ⟨v, nm_e (br_f (by decide) (br_f (by decide) (br_f (by decide) (br_t rfl (br_f (nI_ne0 (by omega) (by omega)) (nm_r (nI_pred dd) ?_))))))⟩⟩⟩⟩
  refine loop_0 (fun n k a => wY_checkOne_253 post yP yC yA yL yQ yS yK (nI dd) n (nI k) ed cl py sk sa sb sc yi yv yo yn jl a sv bk be) (fun k a => a = dl_row (fun o => sv (dd * 8 + o)) pc k) 8 pc (dl_row_0 _ _).symm ?_ ?_
  · intro n a ha
    subst ha
    exact br_t (nI_le (a := 8) (b := 8) (by omega) (by omega)) h
  · intro n k a hk ha ih
    subst ha
    refine br_f (nI_ge (b := 8) hk (by omega)) ?_
    rw [dl_m8, dl_c (show dd * 8 + k < 2 ^ 31 by omega), dl_c (show k < 2 ^ 31 by omega)]
    exact ⟨vp_in_nI (by omega) (by omega), vp_in_nI (by omega) (by omega), nm_e (nm_r (nI_1 k) (ih _ (dl_row_s rfl)))⟩
/-! a stored statement is a valid one -/
theorem dl_nm1 {n : Nat} (h : n < 2 ^ 31) : ¬ nI n = -1 := by
  intro e
  have t := congrArg Int32.toInt e
  rw [nI_toInt h] at t
  have u : (-1 : Int32).toInt = -1 := by decide
  omega
def dl_v (x : Int32) : Prop := ∃ n, n < 16 ∧ x = nI n
def dl_hc (x : Int32) : Prop := ∃ n, n < 4 ∧ x = nI n
def dl_ok (k a b c : Int32) : Prop := (k = 1 ∧ dl_v a) ∨ (k = 2 ∧ dl_v a ∧ dl_v b) ∨ (k = 13 ∧ dl_v a ∧ dl_v b) ∨ ((k = 3 ∨ k = 4 ∨ k = 5 ∨ k = 6 ∨ k = 7) ∧ dl_v a ∧ dl_v b ∧ dl_v c) ∨ ((k = 8 ∨ k = 11) ∧ dl_v a) ∨ k = 9 ∨ k = 10 ∨ (k = 12 ∧ dl_hc a ∧ dl_v b)
def dl_P (L : Nat) (st sk sa sb sc : Nat → Int32) : Prop := ∀ i, i < L → st (i * 4) = sk i ∧ st (i * 4 + 1) = sa i ∧ st (i * 4 + 2) = sb i ∧ st (i * 4 + 3) = sc i ∧ dl_ok (sk i) (sa i) (sb i) (sc i)
def dl_CR (P L i D : Nat) (sk pl op el jm pc sv bk be : Nat → Int32) : Prop := D ≤ 8 ∧ (∀ o, o < P → pl (D * 8 + o) = pc o) ∧ (∀ d, d < D → ∀ o, o < P → pl (d * 8 + o) = sv (d * 8 + o)) ∧ (∀ d, d < D → ∀ o, o < 64 → op d = nI o → bk d = sk o) ∧ (∀ d, d < D → (el d = -1 ↔ be d = 0)) ∧ dl_K sk L i D op el jm
theorem dl_fl_c {P : Nat} {A po s s' : Nat → Int32} {t : Nat} {d : Int32} (h : ∀ o, o < P → s o = s' o) : dl_fl P A po s t d ↔ dl_fl P A po s' t d := by
  constructor
  · intro f o ho a b
    have q := f o ho (by rw [h o ho]; exact a) b
    rw [h o ho] at q
    exact q
  · intro f o ho a b
    have q := f o ho (by rw [← h o ho]; exact a) b
    rw [← h o ho] at q
    exact q
theorem dl_r1 {P D : Nat} (hP : P ≤ 8) (h : ∀ o, o < P → pl (D * 8 + o) = pc o) : ∀ o, o < P → dl_S1 pl so D o = dl_Yp pc (dl_Y0 jl) P o := by
  intro o ho
  unfold dl_S1 dl_Yp dl_Y0
  rw [dl_row_l (by omega), dl_row_l ho, dl_row_l (by omega), dl_ma]
  exact h o ho
theorem dl_rj {P t : Nat} {s j : Nat → Int32} (hP : P ≤ 8) (h : ∀ o, o < P → s o = j o) : ∀ o, o < P → dl_Sj po s t o = dl_Yt po j P t o := by
  intro o ho
  unfold dl_Sj dl_Yt
  rw [dl_row_l (by omega), dl_row_l ho, h o ho]
theorem dl_rt {P t : Nat} {s j : Nat → Int32} (hP : P ≤ 8) : ∀ o, o < P → dl_St po s t o = dl_Yt po (dl_Y0 j) P t o := by
  intro o ho
  unfold dl_St dl_Yt dl_Y0
  rw [dl_row_l (by omega), dl_row_l ho, dl_row_l (by omega), dl_ma]
theorem dl_CRn {P L i D : Nat} (hi : i < L) (h : dl_CR P L i D sk pl op el jm pc sv bk be) (k : ¬ dl_ct (sk i)) : dl_CR P L (i + 1) D sk pl op el jm pc sv bk be := ⟨h.1, h.2.1, h.2.2.1, h.2.2.2.1, h.2.2.2.2.1, dl_K_n hi h.2.2.2.2.2 k⟩
/-- what one statement comes to: one answer, and both sides' states -/
def dl_G (P L i D : Nat) (xC xA xQ xS xK yC yQ yS yK : Int32) (dA aA po st jm pl op el so ip va ov oc ed sk sa sb sc yi yv yo yn jl pc sv bk be : Nat → Int32) : Prop := ∃ (r : Int32) (D' : Nat) (jm' pl' op' el' so' jl' pc' sv' bk' be' : Nat → Int32), (r = 0 ∨ ∃ c, 1 ≤ c ∧ c ≤ 4 ∧ r = nI c) ∧ (r = 0 → dl_CR P L (i + 1) D' sk pl' op' el' jm' pc' sv' bk' be') ∧ (∀ post : Int32 → SX → Prop, post r (nI P, xC, xA, nI L, nI D', xQ, xS, xK, dA, aA, po, st, jm', pl', op', el', so', ip, va, ov, oc) → wpX_statementError post (nI P, xC, xA, nI L, nI D, xQ, xS, xK, dA, aA, po, st, jm, pl, op, el, so, ip, va, ov, oc) (nI i)) ∧ (∀ cl' : Nat → Int32, dl_CA P cl' aA → ∀ post : Int32 → SY → Prop, post r (nI P, yC, xA, nI L, yQ, yS, yK, nI D', ed, cl', po, sk, sa, sb, sc, yi, yv, yo, yn, jl', pc', sv', bk', be') → wpY_checkOne post (nI P, yC, xA, nI L, yQ, yS, yK, nI D, ed, cl', po, sk, sa, sb, sc, yi, yv, yo, yn, jl, pc, sv, bk, be) (nI i))
theorem dl_g1 {P L i D : Nat} (hP : P ≤ 8) (hL : L ≤ 64) (hi : i < L) (hA : dl_A P dA aA) (h : dl_CR P L i D sk pl op el jm pc sv bk be) (hp : dl_P L st sk sa sb sc) (k : sk i = 1) (va' : dl_v (sa i)) : dl_G P L i D xC xA xQ xS xK yC yQ yS yK dA aA po st jm pl op el so ip va ov oc ed sk sa sb sc yi yv yo yn jl pc sv bk be := by
  obtain ⟨p0, p1, p2, p3, _⟩ := hp i hi
  obtain ⟨t, ht, ea⟩ := va'
  have nc : ¬ dl_ct (sk i) := by
    rw [k]
    unfold dl_ct
    decide
  have cg := dl_fl_c (A := aA) (po := po) (t := t) (d := 0) (dl_r1 (so := so) (jl := jl) hP h.2.1)
  by_cases f : dl_fl P aA po (dl_S1 pl so D) t 0
  · exact ⟨0, D, jm, pl, op, el, dl_S1 pl so D, dl_Yp pc (dl_Y0 jl) P, pc, sv, bk, be, Or.inl rfl, fun _ => dl_CRn hi h nc, fun post q => dx_st1 hP h.1 (by omega) (p0.trans k) (p1.trans ea) (by omega) (fun _ => q) (fun z => absurd f z), fun cl' hc post q => dy_st1 hP (by omega) hA hc k ea (by omega) (fun _ => q) (fun z => absurd (cg.mp f) z)⟩
  · exact ⟨3, D, jm, pl, op, el, dl_S1 pl so D, dl_Yp pc (dl_Y0 jl) P, pc, sv, bk, be, Or.inr ⟨3, by omega, by omega, rfl⟩, fun z => absurd z (by decide), fun post q => dx_st1 hP h.1 (by omega) (p0.trans k) (p1.trans ea) (by omega) (fun z => absurd z f) (fun _ => q), fun cl' hc post q => dy_st1 hP (by omega) hA hc k ea (by omega) (fun z => absurd (cg.mpr z) f) (fun _ => q)⟩
theorem dl_g2 {P L i D : Nat} (hP : P ≤ 8) (hL : L ≤ 64) (hi : i < L) (hA : dl_A P dA aA) (h : dl_CR P L i D sk pl op el jm pc sv bk be) (hp : dl_P L st sk sa sb sc) (k : sk i = 2) (va' : dl_v (sa i)) (vb' : dl_v (sb i)) : dl_G P L i D xC xA xQ xS xK yC yQ yS yK dA aA po st jm pl op el so ip va ov oc ed sk sa sb sc yi yv yo yn jl pc sv bk be := by
  obtain ⟨p0, p1, p2, p3, _⟩ := hp i hi
  obtain ⟨t, ht, ea⟩ := va'
  obtain ⟨b, hb, eb⟩ := vb'
  have nc : ¬ dl_ct (sk i) := by
    rw [k]
    unfold dl_ct
    decide
  have cg := dl_fl_c (A := aA) (po := po) (t := t) (d := 0) (dl_rj (po := po) (t := b) hP (dl_r1 (so := so) (jl := jl) hP h.2.1))
  by_cases f : dl_fl P aA po (dl_S2 pl po so D b) t 0
  · exact ⟨0, D, jm, pl, op, el, dl_S2 pl po so D b, dl_Yt po (dl_Yp pc (dl_Y0 jl) P) P b, pc, sv, bk, be, Or.inl rfl, fun _ => dl_CRn hi h nc, fun post q => dx_st2 hP h.1 (by omega) (p0.trans k) (p1.trans ea) (p2.trans eb) (by omega) (by omega) (fun _ => q) (fun z => absurd f z), fun cl' hc post q => dy_st2 hP (by omega) hA hc k ea eb (by omega) (by omega) (fun _ => q) (fun z => absurd (cg.mp f) z)⟩
  · exact ⟨3, D, jm, pl, op, el, dl_S2 pl po so D b, dl_Yt po (dl_Yp pc (dl_Y0 jl) P) P b, pc, sv, bk, be, Or.inr ⟨3, by omega, by omega, rfl⟩, fun z => absurd z (by decide), fun post q => dx_st2 hP h.1 (by omega) (p0.trans k) (p1.trans ea) (p2.trans eb) (by omega) (by omega) (fun z => absurd z f) (fun _ => q), fun cl' hc post q => dy_st2 hP (by omega) hA hc k ea eb (by omega) (by omega) (fun z => absurd (cg.mpr z) f) (fun _ => q)⟩
theorem dl_g12 {P L i D : Nat} (hP : P ≤ 8) (hL : L ≤ 64) (hi : i < L) (hA : dl_A P dA aA) (h : dl_CR P L i D sk pl op el jm pc sv bk be) (hp : dl_P L st sk sa sb sc) (k : sk i = 12) (va' : dl_hc (sa i)) (vb' : dl_v (sb i)) : dl_G P L i D xC xA xQ xS xK yC yQ yS yK dA aA po st jm pl op el so ip va ov oc ed sk sa sb sc yi yv yo yn jl pc sv bk be := by
  obtain ⟨p0, p1, p2, p3, _⟩ := hp i hi
  obtain ⟨t, ht, ea⟩ := va'
  obtain ⟨b, hb, eb⟩ := vb'
  have nc : ¬ dl_ct (sk i) := by
    rw [k]
    unfold dl_ct
    decide
  have cg := dl_fl_c (A := aA) (po := po) (t := (16 + t)) (d := 0) (dl_rj (po := po) (t := b) hP (dl_r1 (so := so) (jl := jl) hP h.2.1))
  by_cases f : dl_fl P aA po (dl_S2 pl po so D b) (16 + t) 0
  · exact ⟨0, D, jm, pl, op, el, dl_S2 pl po so D b, dl_Yt po (dl_Yp pc (dl_Y0 jl) P) P b, pc, sv, bk, be, Or.inl rfl, fun _ => dl_CRn hi h nc, fun post q => dx_st12 hP h.1 (by omega) (p0.trans k) (p1.trans ea) (p2.trans eb) (by omega) (by omega) (fun _ => q) (fun z => absurd f z), fun cl' hc post q => dy_st12 hP (by omega) hA hc k ea eb (by omega) (by omega) (fun _ => q) (fun z => absurd (cg.mp f) z)⟩
  · exact ⟨3, D, jm, pl, op, el, dl_S2 pl po so D b, dl_Yt po (dl_Yp pc (dl_Y0 jl) P) P b, pc, sv, bk, be, Or.inr ⟨3, by omega, by omega, rfl⟩, fun z => absurd z (by decide), fun post q => dx_st12 hP h.1 (by omega) (p0.trans k) (p1.trans ea) (p2.trans eb) (by omega) (by omega) (fun z => absurd z f) (fun _ => q), fun cl' hc post q => dy_st12 hP (by omega) hA hc k ea eb (by omega) (by omega) (fun z => absurd (cg.mpr z) f) (fun _ => q)⟩
theorem dl_g3 {P L i D : Nat} (hP : P ≤ 8) (hL : L ≤ 64) (hi : i < L) (hA : dl_A P dA aA) (h : dl_CR P L i D sk pl op el jm pc sv bk be) (hp : dl_P L st sk sa sb sc) (k : sk i = 3) (va' : dl_v (sa i)) (vb' : dl_v (sb i)) (vc' : dl_v (sc i)) : dl_G P L i D xC xA xQ xS xK yC yQ yS yK dA aA po st jm pl op el so ip va ov oc ed sk sa sb sc yi yv yo yn jl pc sv bk be := by
  obtain ⟨p0, p1, p2, p3, _⟩ := hp i hi
  obtain ⟨t, ht, ea⟩ := va'
  obtain ⟨b, hb, eb⟩ := vb'
  obtain ⟨c, hc2, ec⟩ := vc'
  have nc : ¬ dl_ct (sk i) := by
    rw [k]
    unfold dl_ct
    decide
  have cg := dl_fl_c (A := aA) (po := po) (t := t) (d := 0) (dl_rj (po := po) (t := c) hP (dl_rj (po := po) (t := b) hP (dl_r1 (so := so) (jl := jl) hP h.2.1)))
  by_cases f : dl_fl P aA po (dl_Sj po (dl_S2 pl po so D b) c) t 0
  · exact ⟨0, D, jm, pl, op, el, dl_Sj po (dl_S2 pl po so D b) c, dl_Yt po (dl_Yt po (dl_Yp pc (dl_Y0 jl) P) P b) P c, pc, sv, bk, be, Or.inl rfl, fun _ => dl_CRn hi h nc, fun post q => dx_st3 hP h.1 (by omega) (p0.trans k) (p1.trans ea) (p2.trans eb) (p3.trans ec) (by omega) (by omega) (by omega) (fun _ => q) (fun z => absurd f z), fun cl' hc post q => dy_st3 hP (by omega) hA hc k ea eb ec (by omega) (by omega) (by omega) (fun _ => q) (fun z => absurd (cg.mp f) z)⟩
  · exact ⟨3, D, jm, pl, op, el, dl_Sj po (dl_S2 pl po so D b) c, dl_Yt po (dl_Yt po (dl_Yp pc (dl_Y0 jl) P) P b) P c, pc, sv, bk, be, Or.inr ⟨3, by omega, by omega, rfl⟩, fun z => absurd z (by decide), fun post q => dx_st3 hP h.1 (by omega) (p0.trans k) (p1.trans ea) (p2.trans eb) (p3.trans ec) (by omega) (by omega) (by omega) (fun z => absurd z f) (fun _ => q), fun cl' hc post q => dy_st3 hP (by omega) hA hc k ea eb ec (by omega) (by omega) (by omega) (fun z => absurd (cg.mpr z) f) (fun _ => q)⟩
theorem dl_g4 {P L i D : Nat} (hP : P ≤ 8) (hL : L ≤ 64) (hi : i < L) (hA : dl_A P dA aA) (h : dl_CR P L i D sk pl op el jm pc sv bk be) (hp : dl_P L st sk sa sb sc) (k : sk i = 4) (va' : dl_v (sa i)) (vb' : dl_v (sb i)) (vc' : dl_v (sc i)) : dl_G P L i D xC xA xQ xS xK yC yQ yS yK dA aA po st jm pl op el so ip va ov oc ed sk sa sb sc yi yv yo yn jl pc sv bk be := by
  obtain ⟨p0, p1, p2, p3, _⟩ := hp i hi
  obtain ⟨t, ht, ea⟩ := va'
  obtain ⟨b, hb, eb⟩ := vb'
  obtain ⟨c, hc2, ec⟩ := vc'
  have nc : ¬ dl_ct (sk i) := by
    rw [k]
    unfold dl_ct
    decide
  have cg := dl_fl_c (A := aA) (po := po) (t := t) (d := 0) (dl_rj (po := po) (t := c) hP (dl_rj (po := po) (t := b) hP (dl_r1 (so := so) (jl := jl) hP h.2.1)))
  by_cases f : dl_fl P aA po (dl_Sj po (dl_S2 pl po so D b) c) t 0
  · exact ⟨0, D, jm, pl, op, el, dl_Sj po (dl_S2 pl po so D b) c, dl_Yt po (dl_Yt po (dl_Yp pc (dl_Y0 jl) P) P b) P c, pc, sv, bk, be, Or.inl rfl, fun _ => dl_CRn hi h nc, fun post q => dx_st4 hP h.1 (by omega) (p0.trans k) (p1.trans ea) (p2.trans eb) (p3.trans ec) (by omega) (by omega) (by omega) (fun _ => q) (fun z => absurd f z), fun cl' hc post q => dy_st4 hP (by omega) hA hc k ea eb ec (by omega) (by omega) (by omega) (fun _ => q) (fun z => absurd (cg.mp f) z)⟩
  · exact ⟨3, D, jm, pl, op, el, dl_Sj po (dl_S2 pl po so D b) c, dl_Yt po (dl_Yt po (dl_Yp pc (dl_Y0 jl) P) P b) P c, pc, sv, bk, be, Or.inr ⟨3, by omega, by omega, rfl⟩, fun z => absurd z (by decide), fun post q => dx_st4 hP h.1 (by omega) (p0.trans k) (p1.trans ea) (p2.trans eb) (p3.trans ec) (by omega) (by omega) (by omega) (fun z => absurd z f) (fun _ => q), fun cl' hc post q => dy_st4 hP (by omega) hA hc k ea eb ec (by omega) (by omega) (by omega) (fun z => absurd (cg.mpr z) f) (fun _ => q)⟩
theorem dl_g5 {P L i D : Nat} (hP : P ≤ 8) (hL : L ≤ 64) (hi : i < L) (hA : dl_A P dA aA) (h : dl_CR P L i D sk pl op el jm pc sv bk be) (hp : dl_P L st sk sa sb sc) (k : sk i = 5) (va' : dl_v (sa i)) (vb' : dl_v (sb i)) (vc' : dl_v (sc i)) : dl_G P L i D xC xA xQ xS xK yC yQ yS yK dA aA po st jm pl op el so ip va ov oc ed sk sa sb sc yi yv yo yn jl pc sv bk be := by
  obtain ⟨p0, p1, p2, p3, _⟩ := hp i hi
  obtain ⟨t, ht, ea⟩ := va'
  obtain ⟨b, hb, eb⟩ := vb'
  obtain ⟨c, hc2, ec⟩ := vc'
  have nc : ¬ dl_ct (sk i) := by
    rw [k]
    unfold dl_ct
    decide
  have cg := dl_fl_c (A := aA) (po := po) (t := t) (d := 0) (dl_rj (po := po) (t := c) hP (dl_rj (po := po) (t := b) hP (dl_r1 (so := so) (jl := jl) hP h.2.1)))
  by_cases f : dl_fl P aA po (dl_Sj po (dl_S2 pl po so D b) c) t 0
  · exact ⟨0, D, jm, pl, op, el, dl_Sj po (dl_S2 pl po so D b) c, dl_Yt po (dl_Yt po (dl_Yp pc (dl_Y0 jl) P) P b) P c, pc, sv, bk, be, Or.inl rfl, fun _ => dl_CRn hi h nc, fun post q => dx_st5 hP h.1 (by omega) (p0.trans k) (p1.trans ea) (p2.trans eb) (p3.trans ec) (by omega) (by omega) (by omega) (fun _ => q) (fun z => absurd f z), fun cl' hc post q => dy_st5 hP (by omega) hA hc k ea eb ec (by omega) (by omega) (by omega) (fun _ => q) (fun z => absurd (cg.mp f) z)⟩
  · exact ⟨3, D, jm, pl, op, el, dl_Sj po (dl_S2 pl po so D b) c, dl_Yt po (dl_Yt po (dl_Yp pc (dl_Y0 jl) P) P b) P c, pc, sv, bk, be, Or.inr ⟨3, by omega, by omega, rfl⟩, fun z => absurd z (by decide), fun post q => dx_st5 hP h.1 (by omega) (p0.trans k) (p1.trans ea) (p2.trans eb) (p3.trans ec) (by omega) (by omega) (by omega) (fun z => absurd z f) (fun _ => q), fun cl' hc post q => dy_st5 hP (by omega) hA hc k ea eb ec (by omega) (by omega) (by omega) (fun z => absurd (cg.mpr z) f) (fun _ => q)⟩
theorem dl_g6 {P L i D : Nat} (hP : P ≤ 8) (hL : L ≤ 64) (hi : i < L) (hA : dl_A P dA aA) (h : dl_CR P L i D sk pl op el jm pc sv bk be) (hp : dl_P L st sk sa sb sc) (k : sk i = 6) (va' : dl_v (sa i)) (vb' : dl_v (sb i)) (vc' : dl_v (sc i)) : dl_G P L i D xC xA xQ xS xK yC yQ yS yK dA aA po st jm pl op el so ip va ov oc ed sk sa sb sc yi yv yo yn jl pc sv bk be := by
  obtain ⟨p0, p1, p2, p3, _⟩ := hp i hi
  obtain ⟨t, ht, ea⟩ := va'
  obtain ⟨b, hb, eb⟩ := vb'
  obtain ⟨c, hc2, ec⟩ := vc'
  have nc : ¬ dl_ct (sk i) := by
    rw [k]
    unfold dl_ct
    decide
  have cg := dl_fl_c (A := aA) (po := po) (t := t) (d := 0) (dl_rj (po := po) (t := c) hP (dl_rj (po := po) (t := b) hP (dl_r1 (so := so) (jl := jl) hP h.2.1)))
  by_cases f : dl_fl P aA po (dl_Sj po (dl_S2 pl po so D b) c) t 0
  · exact ⟨0, D, jm, pl, op, el, dl_Sj po (dl_S2 pl po so D b) c, dl_Yt po (dl_Yt po (dl_Yp pc (dl_Y0 jl) P) P b) P c, pc, sv, bk, be, Or.inl rfl, fun _ => dl_CRn hi h nc, fun post q => dx_st6 hP h.1 (by omega) (p0.trans k) (p1.trans ea) (p2.trans eb) (p3.trans ec) (by omega) (by omega) (by omega) (fun _ => q) (fun z => absurd f z), fun cl' hc post q => dy_st6 hP (by omega) hA hc k ea eb ec (by omega) (by omega) (by omega) (fun _ => q) (fun z => absurd (cg.mp f) z)⟩
  · exact ⟨3, D, jm, pl, op, el, dl_Sj po (dl_S2 pl po so D b) c, dl_Yt po (dl_Yt po (dl_Yp pc (dl_Y0 jl) P) P b) P c, pc, sv, bk, be, Or.inr ⟨3, by omega, by omega, rfl⟩, fun z => absurd z (by decide), fun post q => dx_st6 hP h.1 (by omega) (p0.trans k) (p1.trans ea) (p2.trans eb) (p3.trans ec) (by omega) (by omega) (by omega) (fun z => absurd z f) (fun _ => q), fun cl' hc post q => dy_st6 hP (by omega) hA hc k ea eb ec (by omega) (by omega) (by omega) (fun z => absurd (cg.mpr z) f) (fun _ => q)⟩
theorem dl_g7 {P L i D : Nat} (hP : P ≤ 8) (hL : L ≤ 64) (hi : i < L) (hA : dl_A P dA aA) (h : dl_CR P L i D sk pl op el jm pc sv bk be) (hp : dl_P L st sk sa sb sc) (k : sk i = 7) (va' : dl_v (sa i)) (vb' : dl_v (sb i)) (vc' : dl_v (sc i)) : dl_G P L i D xC xA xQ xS xK yC yQ yS yK dA aA po st jm pl op el so ip va ov oc ed sk sa sb sc yi yv yo yn jl pc sv bk be := by
  obtain ⟨p0, p1, p2, p3, _⟩ := hp i hi
  obtain ⟨t, ht, ea⟩ := va'
  obtain ⟨b, hb, eb⟩ := vb'
  obtain ⟨c, hc2, ec⟩ := vc'
  have nc : ¬ dl_ct (sk i) := by
    rw [k]
    unfold dl_ct
    decide
  have cg := dl_fl_c (A := aA) (po := po) (t := t) (d := 0) (dl_rj (po := po) (t := c) hP (dl_rj (po := po) (t := b) hP (dl_r1 (so := so) (jl := jl) hP h.2.1)))
  by_cases f : dl_fl P aA po (dl_Sj po (dl_S2 pl po so D b) c) t 0
  · exact ⟨0, D, jm, pl, op, el, dl_Sj po (dl_S2 pl po so D b) c, dl_Yt po (dl_Yt po (dl_Yp pc (dl_Y0 jl) P) P b) P c, pc, sv, bk, be, Or.inl rfl, fun _ => dl_CRn hi h nc, fun post q => dx_st7 hP h.1 (by omega) (p0.trans k) (p1.trans ea) (p2.trans eb) (p3.trans ec) (by omega) (by omega) (by omega) (fun _ => q) (fun z => absurd f z), fun cl' hc post q => dy_st7 hP (by omega) hA hc k ea eb ec (by omega) (by omega) (by omega) (fun _ => q) (fun z => absurd (cg.mp f) z)⟩
  · exact ⟨3, D, jm, pl, op, el, dl_Sj po (dl_S2 pl po so D b) c, dl_Yt po (dl_Yt po (dl_Yp pc (dl_Y0 jl) P) P b) P c, pc, sv, bk, be, Or.inr ⟨3, by omega, by omega, rfl⟩, fun z => absurd z (by decide), fun post q => dx_st7 hP h.1 (by omega) (p0.trans k) (p1.trans ea) (p2.trans eb) (p3.trans ec) (by omega) (by omega) (by omega) (fun z => absurd z f) (fun _ => q), fun cl' hc post q => dy_st7 hP (by omega) hA hc k ea eb ec (by omega) (by omega) (by omega) (fun z => absurd (cg.mpr z) f) (fun _ => q)⟩
theorem dl_g13 {P L i D : Nat} (hP : P ≤ 8) (hL : L ≤ 64) (hi : i < L) (hA : dl_A P dA aA) (h : dl_CR P L i D sk pl op el jm pc sv bk be) (hp : dl_P L st sk sa sb sc) (k : sk i = 13) (va' : dl_v (sa i)) (vb' : dl_v (sb i)) : dl_G P L i D xC xA xQ xS xK yC yQ yS yK dA aA po st jm pl op el so ip va ov oc ed sk sa sb sc yi yv yo yn jl pc sv bk be := by
  obtain ⟨p0, p1, p2, p3, _⟩ := hp i hi
  obtain ⟨t, ht, ea⟩ := va'
  obtain ⟨b, hb, eb⟩ := vb'
  have nc : ¬ dl_ct (sk i) := by
    rw [k]
    unfold dl_ct
    decide
  have cg := dl_fl_c (A := aA) (po := po) (t := t) (d := 0) (dl_r1 (so := so) (jl := jl) hP h.2.1)
  have cg2 := dl_fl_c (A := aA) (po := po) (t := t) (d := xA) (dl_rt (po := po) (t := b) (s := dl_S1 pl so D) (j := dl_Yp pc (dl_Y0 jl) P) hP)
  by_cases f : dl_fl P aA po (dl_S1 pl so D) t 0
  · by_cases g : dl_fl P aA po (dl_St po (dl_S1 pl so D) b) t xA
    · exact ⟨0, D, jm, pl, op, el, dl_St po (dl_S1 pl so D) b, dl_Yt po (dl_Y0 (dl_Yp pc (dl_Y0 jl) P)) P b, pc, sv, bk, be, Or.inl rfl, fun _ => dl_CRn hi h nc, fun post q => dx_st13 hP h.1 (by omega) (p0.trans k) (p1.trans ea) (p2.trans eb) (by omega) (by omega) (fun z => absurd f z) (fun _ z => absurd g z) (fun _ _ => q), fun cl' hc post q => dy_st13 hP (by omega) hA hc k ea eb (by omega) (by omega) (fun z => absurd (cg.mp f) z) (fun _ z => absurd (cg2.mp g) z) (fun _ _ => q)⟩
    · exact ⟨4, D, jm, pl, op, el, dl_St po (dl_S1 pl so D) b, dl_Yt po (dl_Y0 (dl_Yp pc (dl_Y0 jl) P)) P b, pc, sv, bk, be, Or.inr ⟨4, by omega, by omega, rfl⟩, fun z => absurd z (by decide), fun post q => dx_st13 hP h.1 (by omega) (p0.trans k) (p1.trans ea) (p2.trans eb) (by omega) (by omega) (fun z => absurd f z) (fun _ _ => q) (fun _ z => absurd z g), fun cl' hc post q => dy_st13 hP (by omega) hA hc k ea eb (by omega) (by omega) (fun z => absurd (cg.mp f) z) (fun _ _ => q) (fun _ z => absurd (cg2.mpr z) g)⟩
  · exact ⟨3, D, jm, pl, op, el, dl_S1 pl so D, dl_Yp pc (dl_Y0 jl) P, pc, sv, bk, be, Or.inr ⟨3, by omega, by omega, rfl⟩, fun z => absurd z (by decide), fun post q => dx_st13 hP h.1 (by omega) (p0.trans k) (p1.trans ea) (p2.trans eb) (by omega) (by omega) (fun _ => q) (fun z => absurd z f) (fun z => absurd z f), fun cl' hc post q => dy_st13 hP (by omega) hA hc k ea eb (by omega) (by omega) (fun _ => q) (fun z => absurd (cg.mpr z) f) (fun z => absurd (cg.mpr z) f)⟩
theorem dl_CRo {P L i D t : Nat} {kk : Int32} (hP : P ≤ 8) (hL : L ≤ 64) (hi : i < L) (hD : D < 8) (h : dl_CR P L i D sk pl op el jm pc sv bk be) (k : sk i = kk) (kk8 : kk = 8 ∨ kk = 11) : dl_CR P L (i + 1) (D + 1) sk (dl_seg (dl_S2 pl po so D t) pl ((D + 1) * 8) 8) (upd op D (nI i)) (upd el D (-1)) jm (dl_row (dl_Yt po (dl_Yp pc (dl_Y0 jl) P) P t) pc 8) (dl_seg pc sv (D * 8) 8) (upd bk D kk) (upd be D 0) := by
  obtain ⟨_, h2, h3, h4, h5, h6⟩ := h
  refine ⟨by omega, fun o ho => ?_, fun d hd o ho => ?_, fun d hd o ho e => ?_, fun d hd => ?_, dl_K_o hi h6 (by rw [k]; exact kk8)⟩
  · rw [dl_seg_i (by omega), dl_row_l (by omega)]
    exact dl_rj hP (dl_r1 hP h2) o ho
  · rw [dl_seg_o (by omega)]
    rcases Nat.lt_or_ge d D with z | z
    · rw [dl_seg_o (by omega)]
      exact h3 d z o ho
    · have e : d = D := by omega
      subst e
      rw [dl_seg_i (by omega)]
      exact h2 o ho
  · by_cases z : d = D
    · subst z
      rw [pk_us] at e ⊢
      have w := (nI_eq (by omega) (by omega)).mp e
      rw [← w]
      exact k.symm
    · rw [pk_un z] at e ⊢
      exact h4 d (by omega) o ho e
  · by_cases z : d = D
    · subst z
      rw [pk_us, pk_us]
      exact ⟨fun _ => rfl, fun _ => rfl⟩
    · rw [pk_un z, pk_un z]
      exact h5 d (by omega)
theorem dl_g8 {P L i D : Nat} (hP : P ≤ 8) (hL : L ≤ 64) (hi : i < L) (hA : dl_A P dA aA) (h : dl_CR P L i D sk pl op el jm pc sv bk be) (hp : dl_P L st sk sa sb sc) (k : sk i = 8) (va' : dl_v (sa i)) : dl_G P L i D xC xA xQ xS xK yC yQ yS yK dA aA po st jm pl op el so ip va ov oc ed sk sa sb sc yi yv yo yn jl pc sv bk be := by
  obtain ⟨p0, p1, p2, p3, _⟩ := hp i hi
  obtain ⟨t, ht, ea⟩ := va'
  rcases Nat.lt_or_ge D 8 with hD | hD
  · exact ⟨0, D + 1, jm, dl_seg (dl_S2 pl po so D t) pl ((D + 1) * 8) 8, upd op D (nI i), upd el D (-1), dl_S2 pl po so D t, dl_Yt po (dl_Yp pc (dl_Y0 jl) P) P t, dl_row (dl_Yt po (dl_Yp pc (dl_Y0 jl) P) P t) pc 8, dl_seg pc sv (D * 8) 8, upd bk D 8, upd be D 0, Or.inl rfl, fun _ => dl_CRo hP hL hi hD h k (by decide), fun post q => dx_st8 hD (by omega) (p0.trans k) (p1.trans ea) (by omega) q, fun cl' hc post q => dy_st8 hP hD (by omega) k ea (by omega) q⟩
  · have e : D = 8 := by
      have := h.1
      omega
    subst e
    exact ⟨2, 8, jm, pl, op, el, so, jl, pc, sv, bk, be, Or.inr ⟨2, by omega, by omega, rfl⟩, fun z => absurd z (by decide), fun post q => dx_st88 (by omega) (p0.trans k) (p1.trans ea) q, fun cl' hc post q => dy_st88 (by omega) k q⟩
theorem dl_g11 {P L i D : Nat} (hP : P ≤ 8) (hL : L ≤ 64) (hi : i < L) (hA : dl_A P dA aA) (h : dl_CR P L i D sk pl op el jm pc sv bk be) (hp : dl_P L st sk sa sb sc) (k : sk i = 11) (va' : dl_v (sa i)) : dl_G P L i D xC xA xQ xS xK yC yQ yS yK dA aA po st jm pl op el so ip va ov oc ed sk sa sb sc yi yv yo yn jl pc sv bk be := by
  obtain ⟨p0, p1, p2, p3, _⟩ := hp i hi
  obtain ⟨t, ht, ea⟩ := va'
  rcases Nat.lt_or_ge D 8 with hD | hD
  · exact ⟨0, D + 1, jm, dl_seg (dl_S2 pl po so D t) pl ((D + 1) * 8) 8, upd op D (nI i), upd el D (-1), dl_S2 pl po so D t, dl_Yt po (dl_Yp pc (dl_Y0 jl) P) P t, dl_row (dl_Yt po (dl_Yp pc (dl_Y0 jl) P) P t) pc 8, dl_seg pc sv (D * 8) 8, upd bk D 11, upd be D 0, Or.inl rfl, fun _ => dl_CRo hP hL hi hD h k (by decide), fun post q => dx_st11 hD (by omega) (p0.trans k) (p1.trans ea) (by omega) q, fun cl' hc post q => dy_st11 hP hD (by omega) k ea (by omega) q⟩
  · have e : D = 8 := by
      have := h.1
      omega
    subst e
    exact ⟨2, 8, jm, pl, op, el, so, jl, pc, sv, bk, be, Or.inr ⟨2, by omega, by omega, rfl⟩, fun z => absurd z (by decide), fun post q => dx_st118 (by omega) (p0.trans k) (p1.trans ea) q, fun cl' hc post q => dy_st118 (by omega) k q⟩
theorem dl_g9 {P L i D : Nat} (hP : P ≤ 8) (hL : L ≤ 64) (hi : i < L) (hA : dl_A P dA aA) (h : dl_CR P L i D sk pl op el jm pc sv bk be) (hp : dl_P L st sk sa sb sc) (k : sk i = 9) : dl_G P L i D xC xA xQ xS xK yC yQ yS yK dA aA po st jm pl op el so ip va ov oc ed sk sa sb sc yi yv yo yn jl pc sv bk be := by
  obtain ⟨p0, p1, p2, p3, _⟩ := hp i hi
  cases D with
  | zero => exact ⟨1, 0, jm, pl, op, el, so, jl, pc, sv, bk, be, Or.inr ⟨1, by omega, by omega, rfl⟩, fun z => absurd z (by decide), fun post q => dx_st90 (by omega) (p0.trans k) q, fun cl' hc post q => dy_st90 (by omega) k q⟩
  | succ D =>
    obtain ⟨h1, h2, h3, h4, h5, h6⟩ := h
    obtain ⟨o, o1, o2, o3, _, _, o6⟩ := h6.1 D (by omega)
    have so11 : st (o * 4) = 11 ↔ bk D = 11 := by rw [(hp o (by omega)).1, h4 D (by omega) o (by omega) o2]
    have e0 := h5 D (by omega)
    by_cases f : st (o * 4) = 11 ∨ ¬ el D = -1
    · have f' : bk D = 11 ∨ ¬ be D = 0 := f.elim (fun z => Or.inl (so11.mp z)) (fun z => Or.inr (fun w => z (e0.mpr w)))
      exact ⟨1, D + 1, jm, pl, op, el, so, jl, pc, sv, bk, be, Or.inr ⟨1, by omega, by omega, rfl⟩, fun z => absurd z (by decide), fun post q => dx_st9 (by omega) o2 (by omega) (by omega) (p0.trans k) (fun _ => q) (fun z1 z2 => absurd f (fun y => y.elim z1 (fun u => u z2))), fun cl' hc post q => dy_st9 (by omega) (by omega) k (fun _ => q) (fun z1 z2 => absurd f' (fun y => y.elim z1 (fun u => u z2)))⟩
    · have f1 : ¬ st (o * 4) = 11 := fun z => f (Or.inl z)
      have f2 : el D = -1 := Classical.byContradiction (fun z => f (Or.inr z))
      refine ⟨0, D + 1, jm, pl, op, upd el D (nI i), so, jl, pc, sv, bk, upd be D 1, Or.inl rfl, fun _ => ⟨h1, h2, h3, h4, fun d hd => ?_, dl_K_e hi h6 k (fun o' w1 w2 w3 => ?_) f2 (by omega)⟩, fun post q => dx_st9 (by omega) o2 (by omega) (by omega) (p0.trans k) (fun z => absurd z f) (fun _ _ => q), fun cl' hc post q => dy_st9 (by omega) (by omega) k (fun z => absurd z (fun y => y.elim (fun u => f1 (so11.mpr u)) (fun u => u (e0.mp f2)))) (fun _ _ => q)⟩
      · by_cases z : d = D
        · subst z
          rw [pk_us, pk_us]
          exact ⟨fun w => absurd w (dl_nm1 (by omega)), fun w => absurd w (by decide)⟩
        · rw [pk_un z, pk_un z]
          exact h5 d hd
      · have w := (nI_eq (show o' < 2 ^ 31 by omega) (show o < 2 ^ 31 by omega)).mp (w2.symm.trans o2)
        subst w
        exact f1 (((hp o' (by omega)).1).trans w3)
theorem dl_g10 {P L i D : Nat} (hP : P ≤ 8) (hL : L ≤ 64) (hi : i < L) (hA : dl_A P dA aA) (h : dl_CR P L i D sk pl op el jm pc sv bk be) (hp : dl_P L st sk sa sb sc) (k : sk i = 10) : dl_G P L i D xC xA xQ xS xK yC yQ yS yK dA aA po st jm pl op el so ip va ov oc ed sk sa sb sc yi yv yo yn jl pc sv bk be := by
  obtain ⟨p0, p1, p2, p3, _⟩ := hp i hi
  cases D with
  | zero => exact ⟨1, 0, jm, pl, op, el, so, jl, pc, sv, bk, be, Or.inr ⟨1, by omega, by omega, rfl⟩, fun z => absurd z (by decide), fun post q => dx_st100 (by omega) (p0.trans k) q, fun cl' hc post q => dy_st100 (by omega) k q⟩
  | succ D =>
    obtain ⟨h1, h2, h3, h4, h5, h6⟩ := h
    obtain ⟨o, o1, o2, o3, o4, o5⟩ := dl_K_top hi (by omega) h6 k
    have hso := (hp o (by omega)).1
    rw [← hso] at o4
    have row : ∀ q, q < P → pl (D * 8 + q) = dl_row (fun o => sv (D * 8 + o)) pc 8 q := fun q hq => by
      rw [dl_row_l (by omega)]
      exact h3 D (by omega) q hq
    have no : ∀ q, q < i → op D = nI q → q = o := fun q hq w => (nI_eq (by omega) (by omega)).mp (w.symm.trans o2)
    have io : ¬ i = o := by omega
    rcases o5 with ⟨e1, e2⟩ | ⟨m, m1, m2, m3, m4, m5, m6⟩
    · refine ⟨0, D, dl_j1 jm o i (if st (o * 4) = 11 then nI o else nI (i + 1)), pl, op, el, so, jl, dl_row (fun o => sv (D * 8 + o)) pc 8, sv, bk, be, Or.inl rfl, fun _ => ⟨by omega, row, fun d hd => h3 d (by omega), fun d hd => h4 d (by omega), fun d hd => h5 d (by omega), dl_K_x hi h6 k ?_ ?_ ?_ ?_⟩, fun post q => dx_st10 (by omega) o2 (by omega) (by omega) (p0.trans k) (fun _ => q) (fun m w1 w2 => absurd (e1.symm.trans w2).symm (dl_nm1 (by omega))) (Or.inl e1), fun cl' hc post q => dy_st10 (by omega) (by omega) k q⟩
      · unfold dl_j1
        rw [pk_us]
        exact o4.symm
      · intro q hq w
        have e := no q hq w
        subst e
        unfold dl_j1
        rw [pk_un (by omega), pk_us]
        exact e2.symm
      · intro q hq w
        exact absurd (e1.symm.trans w).symm (dl_nm1 (by omega))
      · intro q hq w1 w2
        unfold dl_j1
        rw [pk_un (by omega), pk_un (fun z => w1 (by rw [z]; exact o2))]
    · have nm : ∀ q, q < i → el D = nI q → q = m := fun q hq w => (nI_eq (by omega) (by omega)).mp (w.symm.trans m2)
      have mo : ¬ m = o := fun z => by
        rw [z, m3] at m4
        exact absurd m4 (by decide)
      refine ⟨0, D, dl_j2 jm o m i (if st (o * 4) = 11 then nI o else nI (i + 1)), pl, op, el, so, jl, dl_row (fun o => sv (D * 8 + o)) pc 8, sv, bk, be, Or.inl rfl, fun _ => ⟨by omega, row, fun d hd => h3 d (by omega), fun d hd => h4 d (by omega), fun d hd => h5 d (by omega), dl_K_x hi h6 k ?_ ?_ ?_ ?_⟩, fun post q => dx_st10 (by omega) o2 (by omega) (by omega) (p0.trans k) (fun w => absurd (m2.symm.trans w) (dl_nm1 (by omega))) (fun m' w1 w2 => ?_) (Or.inr ⟨m, by omega, m2⟩), fun cl' hc post q => dy_st10 (by omega) (by omega) k q⟩
      · unfold dl_j2 dl_j1
        rw [pk_un (by omega), pk_un (by omega), pk_us]
        exact o4.symm
      · intro q hq w
        have e := no q hq w
        subst e
        unfold dl_j2
        rw [pk_un (fun z => mo z.symm), pk_us]
        exact m5.symm
      · intro q hq w
        have e := nm q hq w
        subst e
        unfold dl_j2
        rw [pk_us]
        exact m6.symm
      · intro q hq w1 w2
        unfold dl_j2 dl_j1
        rw [pk_un (fun z => w2 (by rw [z]; exact m2)), pk_un (fun z => w1 (by rw [z]; exact o2)), pk_un (by omega), pk_un (fun z => w1 (by rw [z]; exact o2))]
      · have e := (nI_eq (show m' < 2 ^ 31 by omega) (show m < 2 ^ 31 by omega)).mp (w2.symm.trans m2)
        subst e
        exact q
theorem dl_g {P L i D : Nat} (hP : P ≤ 8) (hL : L ≤ 64) (hi : i < L) (hA : dl_A P dA aA) (h : dl_CR P L i D sk pl op el jm pc sv bk be) (hp : dl_P L st sk sa sb sc) : dl_G P L i D xC xA xQ xS xK yC yQ yS yK dA aA po st jm pl op el so ip va ov oc ed sk sa sb sc yi yv yo yn jl pc sv bk be := by
  obtain ⟨p0, p1, p2, p3, p4⟩ := hp i hi
  rcases p4 with ⟨k, a⟩ | ⟨k, a, b⟩ | ⟨k, a, b⟩ | ⟨k, a, b, c⟩ | ⟨k, a⟩ | k | k | ⟨k, a, b⟩
  · exact dl_g1 hP hL hi hA h hp k a
  · exact dl_g2 hP hL hi hA h hp k a b
  · exact dl_g13 hP hL hi hA h hp k a b
  · rcases k with k | k | k | k | k
    · exact dl_g3 hP hL hi hA h hp k a b c
    · exact dl_g4 hP hL hi hA h hp k a b c
    · exact dl_g5 hP hL hi hA h hp k a b c
    · exact dl_g6 hP hL hi hA h hp k a b c
    · exact dl_g7 hP hL hi hA h hp k a b c
  · rcases k with k | k
    · exact dl_g8 hP hL hi hA h hp k a
    · exact dl_g11 hP hL hi hA h hp k a
  · exact dl_g9 hP hL hi hA h hp k
  · exact dl_g10 hP hL hi hA h hp k
  · exact dl_g12 hP hL hi hA h hp k a b
end
end
section
/-! a whole check, both sides -/
section
variable {xP xC xA xL xO xQ xS xK yP yC yA yL yQ yS yK yD : Int32} {dA aA po st jm pl op el so ip va ov oc ed cl py sk sa sb sc yi yv yo yn jl pc sv bk be : Nat → Int32}
theorem dl_m256 (c i : Nat) : nI c * 256 + nI i = nI (c * 256 + i) := by
  rw [← nI_add, ← pk_mul]
  rfl
theorem dl_1280 (n : Nat) : (1280 : Int32) + nI n = nI (1280 + n) := nI_add 1280 n
theorem dx_first {post : Int32 → SX → Prop} (h : ∃ n, wX_firstError_28 post n 0 xP xC xA xL 0 xQ xS xK dA aA po st jm (dl_row (fun _ => -1) pl 8) op el so ip va ov oc) : wpX_firstError post (xP, xC, xA, xL, xO, xQ, xS, xK, dA, aA, po, st, jm, pl, op, el, so, ip, va, ov, oc) := by
  unfold wpX_firstError
  refine loop_0 (fun n i a => wX_firstError_7 post xP xC xA xL 0 xQ xS xK n (nI i) dA aA po st jm a op el so ip va ov oc) (fun i a => a = dl_row (fun _ => -1) pl i) 8 pl (dl_row_0 _ _).symm ?_ ?_
  · intro n a ha
    subst ha
    exact br_t (nI_le (a := 8) (b := 8) (by omega) (by omega)) h
  · intro n i a hi ha ih
    subst ha
    refine br_f (nI_ge (b := 8) hi (by omega)) ?_
    rw [dl_c (show i < 2 ^ 31 by omega)]
    exact ⟨vp_in_nI (by omega) (by omega), nm_e (nm_r (nI_1 i) (ih _ (dl_row_s rfl)))⟩
theorem dy_first {post : Int32 → SY → Prop} (h : ∃ n, wY_check_38 post 0 n 0 yP yC yA yL yQ yS yK 0 ed cl py sk sa sb sc yi yv yo yn jl (dl_row (fun _ => -1) pc 8) sv bk be) : ∃ n, wY_check_15 post yP yC yA yL yQ yS yK 0 n 0 ed cl py sk sa sb sc yi yv yo yn jl pc sv bk be := by
  refine loop_0 (fun n i a => wY_check_15 post yP yC yA yL yQ yS yK 0 n (nI i) ed cl py sk sa sb sc yi yv yo yn jl a sv bk be) (fun i a => a = dl_row (fun _ => -1) pc i) 8 pc (dl_row_0 _ _).symm ?_ ?_
  · intro n a ha
    subst ha
    exact br_t (nI_le (a := 8) (b := 8) (by omega) (by omega)) h
  · intro n i a hi ha ih
    subst ha
    refine br_f (nI_ge (b := 8) hi (by omega)) ?_
    rw [dl_c (show i < 2 ^ 31 by omega)]
    exact ⟨vp_in_nI (by omega) (by omega), nm_e (nm_r (nI_1 i) (ih _ (dl_row_s rfl)))⟩
theorem dl_chk {P L : Nat} (hP : P ≤ 8) (hL : L ≤ 64) (hA : dl_A P dA aA) (hp : dl_P L st sk sa sb sc) : ∀ (d i D : Nat) (jm pl op el so jl pc sv bk be : Nat → Int32), i + d = L → dl_CR P L i D sk pl op el jm pc sv bk be → ∃ (r : Int32) (D' : Nat) (jm' pl' op' el' so' jl' pc' sv' bk' be' : Nat → Int32), (r = 0 → ∀ q, q < L → dl_ct (sk q) → jm' q = dl_tg sk L q) ∧ (∀ post : Int32 → SX → Prop, post r (nI P, xC, xA, nI L, nI D', xQ, xS, xK, dA, aA, po, st, jm', pl', op', el', so', ip, va, ov, oc) → wX_firstError_28 post (d + 1) (nI i) (nI P) xC xA (nI L) (nI D) xQ xS xK dA aA po st jm pl op el so ip va ov oc) ∧ (∀ cl' : Nat → Int32, dl_CA P cl' aA → ∀ post : Int32 → SY → Prop, wY_check_93 post r (nI P) yC xA (nI L) yQ yS yK (nI D') ed cl' po sk sa sb sc yi yv yo yn jl' pc' sv' bk' be' → wY_check_38 post 0 (d + 1) (nI i) (nI P) yC xA (nI L) yQ yS yK (nI D) ed cl' po sk sa sb sc yi yv yo yn jl pc sv bk be) := by
  intro d
  induction d with
  | zero =>
    intro i D jm pl op el so jl pc sv bk be hd h
    have e : i = L := by omega
    subst e
    have le : nI i ≤ nI i := nI_le (Nat.le_refl _) (by omega)
    cases D with
    | zero => exact ⟨0, 0, jm, pl, op, el, so, jl, pc, sv, bk, be, fun _ => dl_K_fin h.2.2.2.2.2, fun post q => br_t le (br_t nI_0 q), fun cl' hc post q => br_t le (br_t rfl (br_t (by rw [nI_0]; decide) q))⟩
    | succ D =>
      have hD := h.1
      exact ⟨1280 + nI i, D + 1, jm, pl, op, el, so, jl, pc, sv, bk, be, fun z => absurd z (by rw [dl_1280]; exact nI_ne0 (by omega) (by omega)), fun post q => br_t le (br_f (nI_ne0 (by omega) (by omega)) q), fun cl' hc post q => br_t le (br_t rfl (br_f (nI_nle (by omega) (by omega)) (nm_e q)))⟩
  | succ d ih =>
    intro i D jm pl op el so jl pc sv bk be hd h
    have hi : i < L := by omega
    obtain ⟨r, D', jm', pl', op', el', so', jl', pc', sv', bk', be', hr, hcr, hx, hy⟩ := dl_g (xC := xC) (xA := xA) (xQ := xQ) (xS := xS) (xK := xK) (yC := yC) (yQ := yQ) (yS := yS) (yK := yK) (po := po) (so := so) (ip := ip) (va := va) (ov := ov) (oc := oc) (ed := ed) (yi := yi) (yv := yv) (yo := yo) (yn := yn) (jl := jl) hP hL hi hA h hp
    have nle : ¬ nI L ≤ nI i := nI_ge hi (by omega)
    rcases hr with hr | ⟨c, c1, c4, hr⟩
    · obtain ⟨r2, D2, jm2, pl2, op2, el2, so2, jl2, pc2, sv2, bk2, be2, h1, h2, h3⟩ := ih (i + 1) D' jm' pl' op' el' so' jl' pc' sv' bk' be' (by omega) (hcr hr)
      exact ⟨r2, D2, jm2, pl2, op2, el2, so2, jl2, pc2, sv2, bk2, be2, h1, fun post q => br_f nle (hx _ (br_t hr (nm_r (nI_1 i) (h2 post q)))), fun cl' hc post q => br_f nle (hy cl' hc _ (br_t hr (nm_r (nI_1 i) (h3 cl' hc post q))))⟩
    · have nz : ¬ r = 0 := by
        rw [hr]
        exact nI_ne0 (by omega) (by omega)
      have nz2 : ¬ r * 256 + nI i = 0 := by
        rw [hr, dl_m256]
        exact nI_ne0 (by omega) (by omega)
      exact ⟨r * 256 + nI i, D', jm', pl', op', el', so', jl', pc', sv', bk', be', fun z => absurd z nz2, fun post q => br_f nle (hx _ (br_f nz q)), fun cl' hc post q => br_f nle (hy cl' hc _ (br_f nz (nm_e (br_f nz2 q))))⟩
theorem dl_CR0 {P L : Nat} (hP : P ≤ 8) : dl_CR P L 0 0 sk (dl_row (fun _ => -1) pl 8) op el jm (dl_row (fun _ => -1) pc 8) sv bk be := by
  refine ⟨by omega, fun o ho => ?_, fun d hd => absurd hd (by omega), fun d hd => absurd hd (by omega), fun d hd => absurd hd (by omega), dl_K0 _ _ _ _ _⟩
  rw [dl_row_l (by omega), dl_row_l (by omega)]
end
end
section
/-! steps -/
section
variable {xP xC xA xL xO xQ xS xK yP yC yA yL yQ yS yK yD : Int32} {dA aA po st jm pl op el so ip va ov oc ed cl py sk sa sb sc yi yv yo yn jl pc sv bk be : Nat → Int32}
theorem dy_sc {post : Int32 → Prop} {L : Nat} {we : Bool} {w2 : Int32} (hL : L ≤ 64) (hw : w2 = 0 ↔ we = false) : ∀ n j d, n + j = L → d ≤ j → post (dl_sc sk we n j d) → wY_scanForward_7 post w2 yP yC yA (nI L) yQ yS yK yD ed cl py sk sa sb sc yi yv yo yn jl pc sv bk be (n + 1) (nI d) (nI j) := by
  intro n
  induction n with
  | zero =>
    intro j d hj hd h
    have e : j = L := by omega
    subst e
    exact br_t (nI_le (Nat.le_refl _) (by omega)) h
  | succ n ih =>
    intro j d hj hd h
    have d0 : nI d = 0 ↔ d = 0 := by
      rw [← nI_0]
      exact nI_eq (by omega) (by omega)
    have h : post (if sk j = 8 ∨ sk j = 11 then dl_sc sk we n (j + 1) (d + 1) else if sk j = 10 then (if d = 0 then (if we = true then -1 else nI j) else dl_sc sk we n (j + 1) (d - 1)) else if sk j = 9 ∧ d = 0 ∧ we = true then nI j else dl_sc sk we n (j + 1) d) := h
    refine br_f (nI_ge (by omega) (by omega)) ⟨vp_in_nI (by omega) (by omega), ?_⟩
    rw [dl_c (show j < 2 ^ 31 by omega)]
    refine nm_e (br_c (fun k => ?_) (fun k8 => br_c (fun k => ?_) (fun k11 => br_c (fun k => ?_) (fun k10 => br_c (fun k => ?_) (fun k9 => ?_)))))
    · rw [if_pos (Or.inl k)] at h
      exact nm_r (nI_1 d) (nm_r (nI_1 j) (ih (j + 1) (d + 1) (by omega) (by omega) h))
    · rw [if_pos (Or.inr k)] at h
      exact nm_r (nI_1 d) (nm_r (nI_1 j) (ih (j + 1) (d + 1) (by omega) (by omega) h))
    · rw [if_neg (fun z => z.elim k8 k11), if_pos k] at h
      refine br_c (fun z => ?_) (fun z => ?_)
      · rw [if_pos (d0.mp z)] at h
        refine br_c (fun y => ?_) (fun y => ?_)
        · rw [if_neg (by rw [hw.mp y]; decide)] at h
          exact h
        · rw [if_pos (dl_nt (fun u => y (hw.mpr u)))] at h
          exact h
      · have dz : ¬ d = 0 := fun u => z (d0.mpr u)
        rw [if_neg dz] at h
        obtain ⟨d', rfl⟩ : ∃ d', d = d' + 1 := ⟨d - 1, by omega⟩
        rw [Nat.add_sub_cancel] at h
        exact nm_r (pk_m1 d') (nm_r (nI_1 j) (ih (j + 1) d' (by omega) (by omega) h))
    · rw [if_neg (fun z => z.elim k8 k11), if_neg k10] at h
      refine br_c (fun z => ?_) (fun z => ?_)
      · refine br_c (fun y => ?_) (fun y => ?_)
        · rw [if_neg (fun u => by rw [hw.mp y] at u; exact absurd u.2.2 (by decide))] at h
          exact nm_r (nI_1 j) (ih (j + 1) d (by omega) (by omega) h)
        · rw [if_pos ⟨k, d0.mp z, dl_nt (fun u => y (hw.mpr u))⟩] at h
          exact h
      · rw [if_neg (fun u => z (d0.mpr u.2.1))] at h
        exact nm_r (nI_1 j) (ih (j + 1) d (by omega) (by omega) h)
    · rw [if_neg (fun z => z.elim k8 k11), if_neg k10, if_neg (fun u => k9 u.1)] at h
      exact nm_r (nI_1 j) (ih (j + 1) d (by omega) (by omega) h)
theorem dy_sf {post : Int32 → Prop} {L q : Nat} {we : Bool} {w2 : Int32} (hL : L ≤ 64) (hq : q < L) (hw : w2 = 0 ↔ we = false) (h : post (dl_sf sk L we (q + 1) 0)) : wpY_scanForward post (yP, yC, yA, nI L, yQ, yS, yK, yD, ed, cl, py, sk, sa, sb, sc, yi, yv, yo, yn, jl, pc, sv, bk, be) (nI q) w2 := by
  unfold wpY_scanForward
  exact nm_r (nI_1 q) ⟨L - (q + 1) + 1, dy_sc hL hw (L - (q + 1)) (q + 1) 0 (by omega) (by omega) h⟩
theorem dy_sb {post : Int32 → Prop} : ∀ i d, i ≤ 64 → d + i ≤ 128 → post (dl_sb sk i d) → wY_scanBack_6 post yP yC yA yL yQ yS yK yD ed cl py sk sa sb sc yi yv yo yn jl pc sv bk be (i + 1) (nI d) (nI i + (-1)) := by
  intro i
  induction i with
  | zero =>
    intro d _ _ h
    exact br_t (by decide) h
  | succ i ih =>
    intro d hi hd h
    have d0 : nI d = 0 ↔ d = 0 := by
      rw [← nI_0]
      exact nI_eq (by omega) (by omega)
    have h : post (if sk i = 10 then dl_sb sk i (d + 1) else if sk i = 8 ∨ sk i = 11 then (if d = 0 then nI i else dl_sb sk i (d - 1)) else dl_sb sk i d) := h
    rw [pk_m1]
    refine br_f (nI_pos (by omega)) ⟨vp_in_nI (by omega) (by omega), ?_⟩
    rw [dl_c (show i < 2 ^ 31 by omega)]
    have opn : ¬ sk i = 10 → (sk i = 8 ∨ sk i = 11) → wY_scanBack_45 post (wY_scanBack_6 post yP yC yA yL yQ yS yK yD ed cl py sk sa sb sc yi yv yo yn jl pc sv bk be (i + 1)) (nI d) (nI i) yP yC yA yL yQ yS yK yD ed cl py sk sa sb sc yi yv yo yn jl pc sv bk be := by
      intro k10 k
      rw [if_neg k10, if_pos k] at h
      refine br_c (fun z => ?_) (fun z => ?_)
      · rw [if_pos (d0.mp z)] at h
        exact h
      · have dz : ¬ d = 0 := fun u => z (d0.mpr u)
        rw [if_neg dz] at h
        obtain ⟨d', rfl⟩ : ∃ d', d = d' + 1 := ⟨d - 1, by omega⟩
        rw [Nat.add_sub_cancel] at h
        exact nm_r (pk_m1 d') (nm_e (ih d' (by omega) (by omega) h))
    refine nm_e (br_c (fun k => ?_) (fun k10 => br_c (fun k => opn k10 (Or.inl k)) (fun k8 => br_c (fun k => opn k10 (Or.inr k)) (fun k11 => ?_))))
    · rw [if_pos k] at h
      exact nm_r (nI_1 d) (nm_e (ih (d + 1) (by omega) (by omega) h))
    · rw [if_neg k10, if_neg (fun z => z.elim k8 k11)] at h
      exact nm_e (ih d (by omega) (by omega) h)
theorem dy_back {post : Int32 → Prop} {q : Nat} (hq : q ≤ 64) (h : post (dl_sb sk q 0)) : wpY_scanBack post (yP, yC, yA, yL, yQ, yS, yK, yD, ed, cl, py, sk, sa, sb, sc, yi, yv, yo, yn, jl, pc, sv, bk, be) (nI q) := by
  unfold wpY_scanBack
  exact nm_r (e' := nI q + (-1)) (Int32.sub_eq_add_neg _ _) ⟨q + 1, dy_sb q 0 hq (by omega) h⟩
theorem dy_after {post : SY → Prop} {L q : Nat} (hL : L ≤ 64) (hq : q < L) (h : post (yP, yC, yA, nI L, dl_af sk L q, yS, yK, yD, ed, cl, py, sk, sa, sb, sc, yi, yv, yo, yn, jl, pc, sv, bk, be)) : wpY_afterEnd post (yP, yC, yA, nI L, yQ, yS, yK, yD, ed, cl, py, sk, sa, sb, sc, yi, yv, yo, yn, jl, pc, sv, bk, be) (nI q) := by
  unfold wpY_afterEnd
  refine dy_sf (we := false) hL hq ⟨fun _ => rfl, fun _ => rfl⟩ ?_
  unfold dl_af at h
  refine br_c (fun z => ?_) (fun z => ?_)
  · rw [if_neg (Int32.not_lt.mpr z)] at h
    exact nm_e h
  · rw [if_pos (Int32.not_le.mp z)] at h
    exact h
/-- the states of a step agree -/
def dl_H (P C L q : Nat) (xA xO xS xK yD : Int32) (dA aA po st jm pl op el so ip va ov oc ed cl sk sa sb sc jl pc sv bk be : Nat → Int32) : Prop := ∃ (q' : Nat) (va' ov' oc' : Nat → Int32), q' ≤ L ∧ (∀ c, c < 4 → ∃ n, n ≤ 16 ∧ oc' c = nI n) ∧ (∀ post : SX → Prop, post (nI P, nI C, xA, nI L, xO, nI q', xS, xK, dA, aA, po, st, jm, pl, op, el, so, ip, va', ov', oc') → wpX_step post (nI P, nI C, xA, nI L, xO, nI q, xS, xK, dA, aA, po, st, jm, pl, op, el, so, ip, va, ov, oc)) ∧ (∀ post : SY → Prop, post (nI P, nI C, xA, nI L, nI q', xS, xK, yD, ed, cl, po, sk, sa, sb, sc, ip, va', ov', oc', jl, pc, sv, bk, be) → wpY_exec post (nI P, nI C, xA, nI L, nI q, xS, xK, yD, ed, cl, po, sk, sa, sb, sc, ip, va, ov, oc, jl, pc, sv, bk, be))
theorem dl_h1 {P C L q : Nat} (hL : L ≤ 64) (hq : q < L) (ho : ∀ c, c < 4 → ∃ n, n ≤ 16 ∧ oc c = nI n) (hp : dl_P L st sk sa sb sc) (k : sk q = 1) (va' : dl_v (sa q)) : dl_H P C L q xA xO xS xK yD dA aA po st jm pl op el so ip va ov oc ed cl sk sa sb sc jl pc sv bk be := by
  obtain ⟨p0, p1, p2, p3, _⟩ := hp q hq
  obtain ⟨v0, c0⟩ := dl_s0 (show q < 64 by omega)
  obtain ⟨v1, c1⟩ := dl_s1 (show q < 64 by omega)
  obtain ⟨v2, c2⟩ := dl_s2 (show q < 64 by omega)
  obtain ⟨v3, c3⟩ := dl_s3 (show q < 64 by omega)
  have vq : vp_in (nI q) 64 := vp_in_nI (by omega) (by omega)
  have cq := dl_c (show q < 2 ^ 31 by omega)
  obtain ⟨t, ht, ea⟩ := va'
  have ct := dl_c (show t < 2 ^ 31 by omega)
  refine ⟨q + 1, upd va t (sb q), ov, oc, by omega, ho, fun post z => ?_, fun post z => ?_⟩
  · unfold wpX_step
    exact nm_r (dl_m4 q) ⟨v0, nm_r (e' := 1) (by rw [c0]; exact p0.trans k) ⟨v1, nm_r (e' := nI t) (by rw [c1]; exact p1.trans ea) ⟨v2, nm_e ⟨v3, nm_e (br_t (by decide) (br_f (by decide) (br_f (by decide) (br_t rfl ⟨vp_in_nI ht (by omega), nm_r (e' := upd va t (sb q)) (by rw [ct, c2, p2]) (nm_r (nI_1 q) z)⟩))))⟩⟩⟩⟩
  · unfold wpY_exec
    exact ⟨vq, nm_r (e' := 1) (by rw [cq]; exact k) ⟨vq, nm_r (e' := nI t) (by rw [cq]; exact ea) ⟨vq, nm_e ⟨vq, nm_e (nm_r (nI_1 q) (br_t rfl ⟨vp_in_nI ht (by omega), nm_r (e' := upd va t (sb q)) (by rw [ct, cq]) z⟩))⟩⟩⟩⟩
theorem dl_h2 {P C L q : Nat} (hL : L ≤ 64) (hq : q < L) (ho : ∀ c, c < 4 → ∃ n, n ≤ 16 ∧ oc c = nI n) (hp : dl_P L st sk sa sb sc) (k : sk q = 2) (va' : dl_v (sa q)) (vb' : dl_v (sb q)) : dl_H P C L q xA xO xS xK yD dA aA po st jm pl op el so ip va ov oc ed cl sk sa sb sc jl pc sv bk be := by
  obtain ⟨p0, p1, p2, p3, _⟩ := hp q hq
  obtain ⟨v0, c0⟩ := dl_s0 (show q < 64 by omega)
  obtain ⟨v1, c1⟩ := dl_s1 (show q < 64 by omega)
  obtain ⟨v2, c2⟩ := dl_s2 (show q < 64 by omega)
  obtain ⟨v3, c3⟩ := dl_s3 (show q < 64 by omega)
  have vq : vp_in (nI q) 64 := vp_in_nI (by omega) (by omega)
  have cq := dl_c (show q < 2 ^ 31 by omega)
  obtain ⟨t, ht, ea⟩ := va'
  have ct := dl_c (show t < 2 ^ 31 by omega)
  obtain ⟨b, hb, eb⟩ := vb'
  have cb := dl_c (show b < 2 ^ 31 by omega)
  refine ⟨q + 1, upd va t (va b), ov, oc, by omega, ho, fun post z => ?_, fun post z => ?_⟩
  · unfold wpX_step
    exact nm_r (dl_m4 q) ⟨v0, nm_r (e' := 2) (by rw [c0]; exact p0.trans k) ⟨v1, nm_r (e' := nI t) (by rw [c1]; exact p1.trans ea) ⟨v2, nm_r (e' := nI b) (by rw [c2]; exact p2.trans eb) ⟨v3, nm_e (br_t (by decide) (br_f (by decide) (br_f (by decide) (br_f (by decide) (br_t rfl ⟨vp_in_nI hb (by omega), ⟨vp_in_nI ht (by omega), nm_r (e' := upd va t (va b)) (by rw [ct, cb]) (nm_r (nI_1 q) z)⟩⟩)))))⟩⟩⟩⟩
  · unfold wpY_exec
    exact ⟨vq, nm_r (e' := 2) (by rw [cq]; exact k) ⟨vq, nm_r (e' := nI t) (by rw [cq]; exact ea) ⟨vq, nm_r (e' := nI b) (by rw [cq]; exact eb) ⟨vq, nm_e (nm_r (nI_1 q) (br_f (by decide) (br_t rfl (And.intro (vp_in_nI hb (by omega)) ⟨vp_in_nI ht (by omega), nm_r (e' := upd va t (va b)) (by rw [ct, cb]) z⟩))))⟩⟩⟩⟩
theorem dl_h13 {P C L q : Nat} (hL : L ≤ 64) (hq : q < L) (ho : ∀ c, c < 4 → ∃ n, n ≤ 16 ∧ oc c = nI n) (hp : dl_P L st sk sa sb sc) (k : sk q = 13) (va' : dl_v (sa q)) (vb' : dl_v (sb q)) : dl_H P C L q xA xO xS xK yD dA aA po st jm pl op el so ip va ov oc ed cl sk sa sb sc jl pc sv bk be := by
  obtain ⟨p0, p1, p2, p3, _⟩ := hp q hq
  obtain ⟨v0, c0⟩ := dl_s0 (show q < 64 by omega)
  obtain ⟨v1, c1⟩ := dl_s1 (show q < 64 by omega)
  obtain ⟨v2, c2⟩ := dl_s2 (show q < 64 by omega)
  obtain ⟨v3, c3⟩ := dl_s3 (show q < 64 by omega)
  have vq : vp_in (nI q) 64 := vp_in_nI (by omega) (by omega)
  have cq := dl_c (show q < 2 ^ 31 by omega)
  obtain ⟨t, ht, ea⟩ := va'
  have ct := dl_c (show t < 2 ^ 31 by omega)
  obtain ⟨b, hb, eb⟩ := vb'
  have cb := dl_c (show b < 2 ^ 31 by omega)
  refine ⟨q + 1, upd va t (va b), ov, oc, by omega, ho, fun post z => ?_, fun post z => ?_⟩
  · unfold wpX_step
    exact nm_r (dl_m4 q) ⟨v0, nm_r (e' := 13) (by rw [c0]; exact p0.trans k) ⟨v1, nm_r (e' := nI t) (by rw [c1]; exact p1.trans ea) ⟨v2, nm_r (e' := nI b) (by rw [c2]; exact p2.trans eb) ⟨v3, nm_e (br_f (by decide) (br_t (by decide) (br_f (by decide) (br_t (by decide) ⟨vp_in_nI hb (by omega), ⟨vp_in_nI ht (by omega), nm_r (e' := upd va t (va b)) (by rw [ct, cb]) (nm_r (nI_1 q) z)⟩⟩))))⟩⟩⟩⟩
  · unfold wpY_exec
    exact ⟨vq, nm_r (e' := 13) (by rw [cq]; exact k) ⟨vq, nm_r (e' := nI t) (by rw [cq]; exact ea) ⟨vq, nm_r (e' := nI b) (by rw [cq]; exact eb) ⟨vq, nm_e (nm_r (nI_1 q) (br_f (by decide) (br_f (by decide) (br_t rfl (And.intro (vp_in_nI hb (by omega)) ⟨vp_in_nI ht (by omega), nm_r (e' := upd va t (va b)) (by rw [ct, cb]) z⟩)))))⟩⟩⟩⟩
theorem dl_h3 {P C L q : Nat} (hL : L ≤ 64) (hq : q < L) (ho : ∀ c, c < 4 → ∃ n, n ≤ 16 ∧ oc c = nI n) (hp : dl_P L st sk sa sb sc) (k : sk q = 3) (va' : dl_v (sa q)) (vb' : dl_v (sb q)) (vc' : dl_v (sc q)) : dl_H P C L q xA xO xS xK yD dA aA po st jm pl op el so ip va ov oc ed cl sk sa sb sc jl pc sv bk be := by
  obtain ⟨p0, p1, p2, p3, _⟩ := hp q hq
  obtain ⟨v0, c0⟩ := dl_s0 (show q < 64 by omega)
  obtain ⟨v1, c1⟩ := dl_s1 (show q < 64 by omega)
  obtain ⟨v2, c2⟩ := dl_s2 (show q < 64 by omega)
  obtain ⟨v3, c3⟩ := dl_s3 (show q < 64 by omega)
  have vq : vp_in (nI q) 64 := vp_in_nI (by omega) (by omega)
  have cq := dl_c (show q < 2 ^ 31 by omega)
  obtain ⟨t, ht, ea⟩ := va'
  have ct := dl_c (show t < 2 ^ 31 by omega)
  obtain ⟨b, hb, eb⟩ := vb'
  have cb := dl_c (show b < 2 ^ 31 by omega)
  obtain ⟨c, hc2, ec⟩ := vc'
  have cc := dl_c (show c < 2 ^ 31 by omega)
  refine ⟨q + 1, upd va t (va b + va c), ov, oc, by omega, ho, fun post z => ?_, fun post z => ?_⟩
  · unfold wpX_step
    exact nm_r (dl_m4 q) ⟨v0, nm_r (e' := 3) (by rw [c0]; exact p0.trans k) ⟨v1, nm_r (e' := nI t) (by rw [c1]; exact p1.trans ea) ⟨v2, nm_r (e' := nI b) (by rw [c2]; exact p2.trans eb) ⟨v3, nm_r (e' := nI c) (by rw [c3]; exact p3.trans ec) (br_t (by decide) (br_f (by decide) (br_f (by decide) (br_f (by decide) (br_f (by decide) (br_t rfl ⟨vp_in_nI hb (by omega), vp_in_nI hc2 (by omega), ⟨vp_in_nI ht (by omega), nm_r (e' := upd va t (va b + va c)) (by rw [ct, cb, cc]) (nm_r (nI_1 q) z)⟩⟩))))))⟩⟩⟩⟩
  · unfold wpY_exec
    exact ⟨vq, nm_r (e' := 3) (by rw [cq]; exact k) ⟨vq, nm_r (e' := nI t) (by rw [cq]; exact ea) ⟨vq, nm_r (e' := nI b) (by rw [cq]; exact eb) ⟨vq, nm_r (e' := nI c) (by rw [cq]; exact ec) (nm_r (nI_1 q) (br_f (by decide) (br_f (by decide) (br_f (by decide) (br_t rfl ⟨vp_in_nI hb (by omega), vp_in_nI hc2 (by omega), vp_in_nI ht (by omega), nm_r (e' := upd va t (va b + va c)) (by rw [ct, cb, cc]) z⟩)))))⟩⟩⟩⟩
theorem dl_h4 {P C L q : Nat} (hL : L ≤ 64) (hq : q < L) (ho : ∀ c, c < 4 → ∃ n, n ≤ 16 ∧ oc c = nI n) (hp : dl_P L st sk sa sb sc) (k : sk q = 4) (va' : dl_v (sa q)) (vb' : dl_v (sb q)) (vc' : dl_v (sc q)) : dl_H P C L q xA xO xS xK yD dA aA po st jm pl op el so ip va ov oc ed cl sk sa sb sc jl pc sv bk be := by
  obtain ⟨p0, p1, p2, p3, _⟩ := hp q hq
  obtain ⟨v0, c0⟩ := dl_s0 (show q < 64 by omega)
  obtain ⟨v1, c1⟩ := dl_s1 (show q < 64 by omega)
  obtain ⟨v2, c2⟩ := dl_s2 (show q < 64 by omega)
  obtain ⟨v3, c3⟩ := dl_s3 (show q < 64 by omega)
  have vq : vp_in (nI q) 64 := vp_in_nI (by omega) (by omega)
  have cq := dl_c (show q < 2 ^ 31 by omega)
  obtain ⟨t, ht, ea⟩ := va'
  have ct := dl_c (show t < 2 ^ 31 by omega)
  obtain ⟨b, hb, eb⟩ := vb'
  have cb := dl_c (show b < 2 ^ 31 by omega)
  obtain ⟨c, hc2, ec⟩ := vc'
  have cc := dl_c (show c < 2 ^ 31 by omega)
  refine ⟨q + 1, upd va t (va b - va c), ov, oc, by omega, ho, fun post z => ?_, fun post z => ?_⟩
  · unfold wpX_step
    exact nm_r (dl_m4 q) ⟨v0, nm_r (e' := 4) (by rw [c0]; exact p0.trans k) ⟨v1, nm_r (e' := nI t) (by rw [c1]; exact p1.trans ea) ⟨v2, nm_r (e' := nI b) (by rw [c2]; exact p2.trans eb) ⟨v3, nm_r (e' := nI c) (by rw [c3]; exact p3.trans ec) (br_t (by decide) (br_f (by decide) (br_f (by decide) (br_f (by decide) (br_f (by decide) (br_f (by decide) (br_t rfl ⟨vp_in_nI hb (by omega), vp_in_nI hc2 (by omega), ⟨vp_in_nI ht (by omega), nm_r (e' := upd va t (va b - va c)) (by rw [ct, cb, cc]) (nm_r (nI_1 q) z)⟩⟩)))))))⟩⟩⟩⟩
  · unfold wpY_exec
    exact ⟨vq, nm_r (e' := 4) (by rw [cq]; exact k) ⟨vq, nm_r (e' := nI t) (by rw [cq]; exact ea) ⟨vq, nm_r (e' := nI b) (by rw [cq]; exact eb) ⟨vq, nm_r (e' := nI c) (by rw [cq]; exact ec) (nm_r (nI_1 q) (br_f (by decide) (br_f (by decide) (br_f (by decide) (br_f (by decide) (br_t rfl ⟨vp_in_nI hb (by omega), vp_in_nI hc2 (by omega), vp_in_nI ht (by omega), nm_r (e' := upd va t (va b - va c)) (by rw [ct, cb, cc]) z⟩))))))⟩⟩⟩⟩
theorem dl_h5 {P C L q : Nat} (hL : L ≤ 64) (hq : q < L) (ho : ∀ c, c < 4 → ∃ n, n ≤ 16 ∧ oc c = nI n) (hp : dl_P L st sk sa sb sc) (k : sk q = 5) (va' : dl_v (sa q)) (vb' : dl_v (sb q)) (vc' : dl_v (sc q)) : dl_H P C L q xA xO xS xK yD dA aA po st jm pl op el so ip va ov oc ed cl sk sa sb sc jl pc sv bk be := by
  obtain ⟨p0, p1, p2, p3, _⟩ := hp q hq
  obtain ⟨v0, c0⟩ := dl_s0 (show q < 64 by omega)
  obtain ⟨v1, c1⟩ := dl_s1 (show q < 64 by omega)
  obtain ⟨v2, c2⟩ := dl_s2 (show q < 64 by omega)
  obtain ⟨v3, c3⟩ := dl_s3 (show q < 64 by omega)
  have vq : vp_in (nI q) 64 := vp_in_nI (by omega) (by omega)
  have cq := dl_c (show q < 2 ^ 31 by omega)
  obtain ⟨t, ht, ea⟩ := va'
  have ct := dl_c (show t < 2 ^ 31 by omega)
  obtain ⟨b, hb, eb⟩ := vb'
  have cb := dl_c (show b < 2 ^ 31 by omega)
  obtain ⟨c, hc2, ec⟩ := vc'
  have cc := dl_c (show c < 2 ^ 31 by omega)
  refine ⟨q + 1, upd va t (va b * va c), ov, oc, by omega, ho, fun post z => ?_, fun post z => ?_⟩
  · unfold wpX_step
    exact nm_r (dl_m4 q) ⟨v0, nm_r (e' := 5) (by rw [c0]; exact p0.trans k) ⟨v1, nm_r (e' := nI t) (by rw [c1]; exact p1.trans ea) ⟨v2, nm_r (e' := nI b) (by rw [c2]; exact p2.trans eb) ⟨v3, nm_r (e' := nI c) (by rw [c3]; exact p3.trans ec) (br_t (by decide) (br_f (by decide) (br_f (by decide) (br_f (by decide) (br_f (by decide) (br_f (by decide) (br_f (by decide) (br_t rfl ⟨vp_in_nI hb (by omega), vp_in_nI hc2 (by omega), ⟨vp_in_nI ht (by omega), nm_r (e' := upd va t (va b * va c)) (by rw [ct, cb, cc]) (nm_r (nI_1 q) z)⟩⟩))))))))⟩⟩⟩⟩
  · unfold wpY_exec
    exact ⟨vq, nm_r (e' := 5) (by rw [cq]; exact k) ⟨vq, nm_r (e' := nI t) (by rw [cq]; exact ea) ⟨vq, nm_r (e' := nI b) (by rw [cq]; exact eb) ⟨vq, nm_r (e' := nI c) (by rw [cq]; exact ec) (nm_r (nI_1 q) (br_f (by decide) (br_f (by decide) (br_f (by decide) (br_f (by decide) (br_f (by decide) (br_t rfl ⟨vp_in_nI hb (by omega), vp_in_nI hc2 (by omega), vp_in_nI ht (by omega), nm_r (e' := upd va t (va b * va c)) (by rw [ct, cb, cc]) z⟩)))))))⟩⟩⟩⟩
theorem dl_h6 {P C L q : Nat} (hL : L ≤ 64) (hq : q < L) (ho : ∀ c, c < 4 → ∃ n, n ≤ 16 ∧ oc c = nI n) (hp : dl_P L st sk sa sb sc) (k : sk q = 6) (va' : dl_v (sa q)) (vb' : dl_v (sb q)) (vc' : dl_v (sc q)) : dl_H P C L q xA xO xS xK yD dA aA po st jm pl op el so ip va ov oc ed cl sk sa sb sc jl pc sv bk be := by
  obtain ⟨p0, p1, p2, p3, _⟩ := hp q hq
  obtain ⟨v0, c0⟩ := dl_s0 (show q < 64 by omega)
  obtain ⟨v1, c1⟩ := dl_s1 (show q < 64 by omega)
  obtain ⟨v2, c2⟩ := dl_s2 (show q < 64 by omega)
  obtain ⟨v3, c3⟩ := dl_s3 (show q < 64 by omega)
  have vq : vp_in (nI q) 64 := vp_in_nI (by omega) (by omega)
  have cq := dl_c (show q < 2 ^ 31 by omega)
  obtain ⟨t, ht, ea⟩ := va'
  have ct := dl_c (show t < 2 ^ 31 by omega)
  obtain ⟨b, hb, eb⟩ := vb'
  have cb := dl_c (show b < 2 ^ 31 by omega)
  obtain ⟨c, hc2, ec⟩ := vc'
  have cc := dl_c (show c < 2 ^ 31 by omega)
  by_cases g : va c ≤ va b
  · refine ⟨q + 1, upd va t 0, ov, oc, by omega, ho, fun post z => ?_, fun post z => ?_⟩
    · unfold wpX_step
      refine nm_r (dl_m4 q) ⟨v0, nm_r (e' := 6) (by rw [c0]; exact p0.trans k) ⟨v1, nm_r (e' := nI t) (by rw [c1]; exact p1.trans ea) ⟨v2, nm_r (e' := nI b) (by rw [c2]; exact p2.trans eb) ⟨v3, nm_r (e' := nI c) (by rw [c3]; exact p3.trans ec) (br_t (by decide) (br_f (by decide) (br_f (by decide) (br_f (by decide) (br_f (by decide) (br_f (by decide) (br_f (by decide) (br_f (by decide) (br_t rfl ⟨vp_in_nI hb (by omega), vp_in_nI hc2 (by omega), ?_⟩)))))))))⟩⟩⟩⟩
      rw [cb, cc]
      exact br_t g ⟨vp_in_nI ht (by omega), nm_r (e' := upd va t 0) (by rw [ct]) (nm_r (nI_1 q) z)⟩
    · unfold wpY_exec
      refine ⟨vq, nm_r (e' := 6) (by rw [cq]; exact k) ⟨vq, nm_r (e' := nI t) (by rw [cq]; exact ea) ⟨vq, nm_r (e' := nI b) (by rw [cq]; exact eb) ⟨vq, nm_r (e' := nI c) (by rw [cq]; exact ec) (nm_r (nI_1 q) (br_f (by decide) (br_f (by decide) (br_f (by decide) (br_f (by decide) (br_f (by decide) (br_f (by decide) (br_t rfl ⟨vp_in_nI hb (by omega), vp_in_nI hc2 (by omega), ?_⟩))))))))⟩⟩⟩⟩
      rw [cb, cc]
      exact br_t g ⟨vp_in_nI ht (by omega), nm_r (e' := upd va t 0) (by rw [ct]) z⟩
  · refine ⟨q + 1, upd va t 1, ov, oc, by omega, ho, fun post z => ?_, fun post z => ?_⟩
    · unfold wpX_step
      refine nm_r (dl_m4 q) ⟨v0, nm_r (e' := 6) (by rw [c0]; exact p0.trans k) ⟨v1, nm_r (e' := nI t) (by rw [c1]; exact p1.trans ea) ⟨v2, nm_r (e' := nI b) (by rw [c2]; exact p2.trans eb) ⟨v3, nm_r (e' := nI c) (by rw [c3]; exact p3.trans ec) (br_t (by decide) (br_f (by decide) (br_f (by decide) (br_f (by decide) (br_f (by decide) (br_f (by decide) (br_f (by decide) (br_f (by decide) (br_t rfl ⟨vp_in_nI hb (by omega), vp_in_nI hc2 (by omega), ?_⟩)))))))))⟩⟩⟩⟩
      rw [cb, cc]
      exact br_f g ⟨vp_in_nI ht (by omega), nm_r (e' := upd va t 1) (by rw [ct]) (nm_r (nI_1 q) z)⟩
    · unfold wpY_exec
      refine ⟨vq, nm_r (e' := 6) (by rw [cq]; exact k) ⟨vq, nm_r (e' := nI t) (by rw [cq]; exact ea) ⟨vq, nm_r (e' := nI b) (by rw [cq]; exact eb) ⟨vq, nm_r (e' := nI c) (by rw [cq]; exact ec) (nm_r (nI_1 q) (br_f (by decide) (br_f (by decide) (br_f (by decide) (br_f (by decide) (br_f (by decide) (br_f (by decide) (br_t rfl ⟨vp_in_nI hb (by omega), vp_in_nI hc2 (by omega), ?_⟩))))))))⟩⟩⟩⟩
      rw [cb, cc]
      exact br_f g ⟨vp_in_nI ht (by omega), nm_r (e' := upd va t 1) (by rw [ct]) z⟩
theorem dl_h7 {P C L q : Nat} (hL : L ≤ 64) (hq : q < L) (ho : ∀ c, c < 4 → ∃ n, n ≤ 16 ∧ oc c = nI n) (hp : dl_P L st sk sa sb sc) (k : sk q = 7) (va' : dl_v (sa q)) (vb' : dl_v (sb q)) (vc' : dl_v (sc q)) : dl_H P C L q xA xO xS xK yD dA aA po st jm pl op el so ip va ov oc ed cl sk sa sb sc jl pc sv bk be := by
  obtain ⟨p0, p1, p2, p3, _⟩ := hp q hq
  obtain ⟨v0, c0⟩ := dl_s0 (show q < 64 by omega)
  obtain ⟨v1, c1⟩ := dl_s1 (show q < 64 by omega)
  obtain ⟨v2, c2⟩ := dl_s2 (show q < 64 by omega)
  obtain ⟨v3, c3⟩ := dl_s3 (show q < 64 by omega)
  have vq : vp_in (nI q) 64 := vp_in_nI (by omega) (by omega)
  have cq := dl_c (show q < 2 ^ 31 by omega)
  obtain ⟨t, ht, ea⟩ := va'
  have ct := dl_c (show t < 2 ^ 31 by omega)
  obtain ⟨b, hb, eb⟩ := vb'
  have cb := dl_c (show b < 2 ^ 31 by omega)
  obtain ⟨c, hc2, ec⟩ := vc'
  have cc := dl_c (show c < 2 ^ 31 by omega)
  by_cases g : va b = va c
  · refine ⟨q + 1, upd va t 1, ov, oc, by omega, ho, fun post z => ?_, fun post z => ?_⟩
    · unfold wpX_step
      refine nm_r (dl_m4 q) ⟨v0, nm_r (e' := 7) (by rw [c0]; exact p0.trans k) ⟨v1, nm_r (e' := nI t) (by rw [c1]; exact p1.trans ea) ⟨v2, nm_r (e' := nI b) (by rw [c2]; exact p2.trans eb) ⟨v3, nm_r (e' := nI c) (by rw [c3]; exact p3.trans ec) (br_t (by decide) (br_f (by decide) (br_f (by decide) (br_f (by decide) (br_f (by decide) (br_f (by decide) (br_f (by decide) (br_f (by decide) (br_f (by decide) (br_t rfl ⟨vp_in_nI hb (by omega), vp_in_nI hc2 (by omega), ?_⟩))))))))))⟩⟩⟩⟩
      rw [cb, cc]
      exact br_t g ⟨vp_in_nI ht (by omega), nm_r (e' := upd va t 1) (by rw [ct]) (nm_r (nI_1 q) z)⟩
    · unfold wpY_exec
      refine ⟨vq, nm_r (e' := 7) (by rw [cq]; exact k) ⟨vq, nm_r (e' := nI t) (by rw [cq]; exact ea) ⟨vq, nm_r (e' := nI b) (by rw [cq]; exact eb) ⟨vq, nm_r (e' := nI c) (by rw [cq]; exact ec) (nm_r (nI_1 q) (br_f (by decide) (br_f (by decide) (br_f (by decide) (br_f (by decide) (br_f (by decide) (br_f (by decide) (br_f (by decide) (br_t rfl ⟨vp_in_nI hb (by omega), vp_in_nI hc2 (by omega), ?_⟩)))))))))⟩⟩⟩⟩
      rw [cb, cc]
      exact br_t g ⟨vp_in_nI ht (by omega), nm_r (e' := upd va t 1) (by rw [ct]) z⟩
  · refine ⟨q + 1, upd va t 0, ov, oc, by omega, ho, fun post z => ?_, fun post z => ?_⟩
    · unfold wpX_step
      refine nm_r (dl_m4 q) ⟨v0, nm_r (e' := 7) (by rw [c0]; exact p0.trans k) ⟨v1, nm_r (e' := nI t) (by rw [c1]; exact p1.trans ea) ⟨v2, nm_r (e' := nI b) (by rw [c2]; exact p2.trans eb) ⟨v3, nm_r (e' := nI c) (by rw [c3]; exact p3.trans ec) (br_t (by decide) (br_f (by decide) (br_f (by decide) (br_f (by decide) (br_f (by decide) (br_f (by decide) (br_f (by decide) (br_f (by decide) (br_f (by decide) (br_t rfl ⟨vp_in_nI hb (by omega), vp_in_nI hc2 (by omega), ?_⟩))))))))))⟩⟩⟩⟩
      rw [cb, cc]
      exact br_f g ⟨vp_in_nI ht (by omega), nm_r (e' := upd va t 0) (by rw [ct]) (nm_r (nI_1 q) z)⟩
    · unfold wpY_exec
      refine ⟨vq, nm_r (e' := 7) (by rw [cq]; exact k) ⟨vq, nm_r (e' := nI t) (by rw [cq]; exact ea) ⟨vq, nm_r (e' := nI b) (by rw [cq]; exact eb) ⟨vq, nm_r (e' := nI c) (by rw [cq]; exact ec) (nm_r (nI_1 q) (br_f (by decide) (br_f (by decide) (br_f (by decide) (br_f (by decide) (br_f (by decide) (br_f (by decide) (br_f (by decide) (br_t rfl ⟨vp_in_nI hb (by omega), vp_in_nI hc2 (by omega), ?_⟩)))))))))⟩⟩⟩⟩
      rw [cb, cc]
      exact br_f g ⟨vp_in_nI ht (by omega), nm_r (e' := upd va t 0) (by rw [ct]) z⟩
theorem dl_h12 {P C L q : Nat} (hL : L ≤ 64) (hq : q < L) (ho : ∀ c, c < 4 → ∃ n, n ≤ 16 ∧ oc c = nI n) (hp : dl_P L st sk sa sb sc) (k : sk q = 12) (va' : dl_hc (sa q)) (vb' : dl_v (sb q)) : dl_H P C L q xA xO xS xK yD dA aA po st jm pl op el so ip va ov oc ed cl sk sa sb sc jl pc sv bk be := by
  obtain ⟨p0, p1, p2, p3, _⟩ := hp q hq
  obtain ⟨v0, c0⟩ := dl_s0 (show q < 64 by omega)
  obtain ⟨v1, c1⟩ := dl_s1 (show q < 64 by omega)
  obtain ⟨v2, c2⟩ := dl_s2 (show q < 64 by omega)
  obtain ⟨v3, c3⟩ := dl_s3 (show q < 64 by omega)
  have vq : vp_in (nI q) 64 := vp_in_nI (by omega) (by omega)
  have cq := dl_c (show q < 2 ^ 31 by omega)
  obtain ⟨t, ht, ea⟩ := va'
  have ct := dl_c (show t < 2 ^ 31 by omega)
  obtain ⟨b, hb, eb⟩ := vb'
  have cb := dl_c (show b < 2 ^ 31 by omega)
  obtain ⟨n, hn, en⟩ := ho t ht
  have vt : vp_in (nI t) 4 := vp_in_nI ht (by omega)
  have vb2 : vp_in (nI b) 16 := vp_in_nI hb (by omega)
  rcases Nat.lt_or_ge n 16 with n16 | n16
  · have l1 : nI n < 16 := nI_lt (b := 16) n16 (by omega)
    have l2 : ¬ (16 : Int32) ≤ nI n := nI_ge (b := 16) n16 (by omega)
    have vo : vp_in (nI (t * 16 + n)) 64 := vp_in_nI (by omega) (by omega)
    have co := dl_c (show t * 16 + n < 2 ^ 31 by omega)
    refine ⟨q + 1, va, upd ov (t * 16 + n) (va b), upd oc t (nI (n + 1)), by omega, fun c hc => ?_, fun post z => ?_, fun post z => ?_⟩
    · by_cases e : c = t
      · subst e
        rw [pk_us]
        exact ⟨n + 1, by omega, rfl⟩
      · rw [pk_un e]
        exact ho c hc
    · unfold wpX_step
      refine nm_r (dl_m4 q) ⟨v0, nm_r (e' := 12) (by rw [c0]; exact p0.trans k) ⟨v1, nm_r (e' := nI t) (by rw [c1]; exact p1.trans ea) ⟨v2, nm_r (e' := nI b) (by rw [c2]; exact p2.trans eb) ⟨v3, nm_e (br_f (by decide) (br_f (by decide) (br_f (by decide) (br_f (by decide) (br_f (by decide) (br_f (by decide) (br_t rfl ⟨vb2, ?_⟩)))))))⟩⟩⟩⟩
      unfold wpX_append
      refine ⟨vt, nm_r (e' := nI n) (by rw [ct]; exact en) (br_t l1 ?_)⟩
      rw [dl_m16, co, ct, cb, nI_1]
      exact ⟨vo, nm_e ⟨vt, nm_e (nm_r (nI_1 q) z)⟩⟩
    · unfold wpY_exec
      refine ⟨vq, nm_r (e' := 12) (by rw [cq]; exact k) ⟨vq, nm_r (e' := nI t) (by rw [cq]; exact ea) ⟨vq, nm_r (e' := nI b) (by rw [cq]; exact eb) ⟨vq, nm_e (nm_r (nI_1 q) (br_f (by decide) (br_f (by decide) (br_f (by decide) (br_f (by decide) (br_f (by decide) (br_f (by decide) (br_f (by decide) (br_f (by decide) (br_t rfl ⟨vt, ?_⟩))))))))))⟩⟩⟩⟩
      rw [ct, cb, en, dl_m16, co, nI_1]
      exact br_f l2 ⟨vt, vb2, vo, nm_e ⟨vt, vt, nm_e z⟩⟩
  · have l1 : ¬ nI n < 16 := nI_nlt (b := 16) n16 (by omega)
    have l2 : (16 : Int32) ≤ nI n := nI_le (a := 16) n16 (by omega)
    refine ⟨q + 1, va, ov, oc, by omega, ho, fun post z => ?_, fun post z => ?_⟩
    · unfold wpX_step
      refine nm_r (dl_m4 q) ⟨v0, nm_r (e' := 12) (by rw [c0]; exact p0.trans k) ⟨v1, nm_r (e' := nI t) (by rw [c1]; exact p1.trans ea) ⟨v2, nm_r (e' := nI b) (by rw [c2]; exact p2.trans eb) ⟨v3, nm_e (br_f (by decide) (br_f (by decide) (br_f (by decide) (br_f (by decide) (br_f (by decide) (br_f (by decide) (br_t rfl ⟨vb2, ?_⟩)))))))⟩⟩⟩⟩
      unfold wpX_append
      exact ⟨vt, nm_r (e' := nI n) (by rw [ct]; exact en) (br_f l1 (nm_r (nI_1 q) z))⟩
    · unfold wpY_exec
      refine ⟨vq, nm_r (e' := 12) (by rw [cq]; exact k) ⟨vq, nm_r (e' := nI t) (by rw [cq]; exact ea) ⟨vq, nm_r (e' := nI b) (by rw [cq]; exact eb) ⟨vq, nm_e (nm_r (nI_1 q) (br_f (by decide) (br_f (by decide) (br_f (by decide) (br_f (by decide) (br_f (by decide) (br_f (by decide) (br_f (by decide) (br_f (by decide) (br_t rfl ⟨vt, ?_⟩))))))))))⟩⟩⟩⟩
      rw [ct, en]
      exact br_t l2 z
theorem dl_h8 {P C L q : Nat} (hL : L ≤ 64) (hq : q < L) (ho : ∀ c, c < 4 → ∃ n, n ≤ 16 ∧ oc c = nI n) (hp : dl_P L st sk sa sb sc) (hj : ∀ q, q < L → dl_ct (sk q) → jm q = dl_tg sk L q) (k : sk q = 8) (va' : dl_v (sa q)) : dl_H P C L q xA xO xS xK yD dA aA po st jm pl op el so ip va ov oc ed cl sk sa sb sc jl pc sv bk be := by
  obtain ⟨p0, p1, p2, p3, _⟩ := hp q hq
  obtain ⟨v0, c0⟩ := dl_s0 (show q < 64 by omega)
  obtain ⟨v1, c1⟩ := dl_s1 (show q < 64 by omega)
  obtain ⟨v2, c2⟩ := dl_s2 (show q < 64 by omega)
  obtain ⟨v3, c3⟩ := dl_s3 (show q < 64 by omega)
  have vq : vp_in (nI q) 64 := vp_in_nI (by omega) (by omega)
  have cq := dl_c (show q < 2 ^ 31 by omega)
  obtain ⟨t, ht, ea⟩ := va'
  have ct := dl_c (show t < 2 ^ 31 by omega)
  by_cases g : va t = 0
  · obtain ⟨q', hq', e⟩ := dl_tg_r sk hq (show L < 2 ^ 31 by omega)
    have ej := (hj q hq (Or.inl k)).trans e
    have et : dl_if sk L q = nI q' := (show dl_tg sk L q = dl_if sk L q from (if_pos k)).symm.trans e
    refine ⟨q', va, ov, oc, hq', ho, fun post z => ?_, fun post z => ?_⟩
    · unfold wpX_step
      refine nm_r (dl_m4 q) ⟨v0, nm_r (e' := 8) (by rw [c0]; exact p0.trans k) ⟨v1, nm_r (e' := nI t) (by rw [c1]; exact p1.trans ea) ⟨v2, nm_e ⟨v3, nm_e (br_f (by decide) (br_f (by decide) (br_t rfl (?_))))⟩⟩⟩⟩
      unfold wX_step_80
      rw [ct, cq]
      exact ⟨vp_in_nI ht (by omega), br_t g ⟨vq, nm_r ej z⟩⟩
    · unfold wpY_exec
      refine ⟨vq, nm_r (e' := 8) (by rw [cq]; exact k) ⟨vq, nm_r (e' := nI t) (by rw [cq]; exact ea) ⟨vq, nm_e ⟨vq, nm_e (nm_r (nI_1 q) (br_f (by decide) (br_f (by decide) (br_f (by decide) (br_f (by decide) (br_f (by decide) (br_f (by decide) (br_f (by decide) (br_f (by decide) (br_f (by decide) (br_t rfl ⟨vp_in_nI ht (by omega), ?_⟩)))))))))))⟩⟩⟩⟩
      rw [ct]
      refine br_t g (dy_sf (we := true) hL hq ⟨fun y => absurd y (by decide), fun y => absurd y (by decide)⟩ ?_)
      rw [← et] at z
      unfold dl_if at z
      refine br_c (fun y => ?_) (fun y => ?_)
      · rw [if_neg (Int32.not_le.mpr y)] at z
        exact dy_after hL hq z
      · rw [if_pos (Int32.not_lt.mp y)] at z
        exact nm_e z
  · refine ⟨q + 1, va, ov, oc, by omega, ho, fun post z => ?_, fun post z => ?_⟩
    · unfold wpX_step
      refine nm_r (dl_m4 q) ⟨v0, nm_r (e' := 8) (by rw [c0]; exact p0.trans k) ⟨v1, nm_r (e' := nI t) (by rw [c1]; exact p1.trans ea) ⟨v2, nm_e ⟨v3, nm_e (br_f (by decide) (br_f (by decide) (br_t rfl (?_))))⟩⟩⟩⟩
      unfold wX_step_80
      rw [ct]
      exact ⟨vp_in_nI ht (by omega), br_f g (nm_r (nI_1 q) z)⟩
    · unfold wpY_exec
      refine ⟨vq, nm_r (e' := 8) (by rw [cq]; exact k) ⟨vq, nm_r (e' := nI t) (by rw [cq]; exact ea) ⟨vq, nm_e ⟨vq, nm_e (nm_r (nI_1 q) (br_f (by decide) (br_f (by decide) (br_f (by decide) (br_f (by decide) (br_f (by decide) (br_f (by decide) (br_f (by decide) (br_f (by decide) (br_f (by decide) (br_t rfl ⟨vp_in_nI ht (by omega), ?_⟩)))))))))))⟩⟩⟩⟩
      rw [ct]
      exact br_f g z
theorem dl_h11 {P C L q : Nat} (hL : L ≤ 64) (hq : q < L) (ho : ∀ c, c < 4 → ∃ n, n ≤ 16 ∧ oc c = nI n) (hp : dl_P L st sk sa sb sc) (hj : ∀ q, q < L → dl_ct (sk q) → jm q = dl_tg sk L q) (k : sk q = 11) (va' : dl_v (sa q)) : dl_H P C L q xA xO xS xK yD dA aA po st jm pl op el so ip va ov oc ed cl sk sa sb sc jl pc sv bk be := by
  obtain ⟨p0, p1, p2, p3, _⟩ := hp q hq
  obtain ⟨v0, c0⟩ := dl_s0 (show q < 64 by omega)
  obtain ⟨v1, c1⟩ := dl_s1 (show q < 64 by omega)
  obtain ⟨v2, c2⟩ := dl_s2 (show q < 64 by omega)
  obtain ⟨v3, c3⟩ := dl_s3 (show q < 64 by omega)
  have vq : vp_in (nI q) 64 := vp_in_nI (by omega) (by omega)
  have cq := dl_c (show q < 2 ^ 31 by omega)
  obtain ⟨t, ht, ea⟩ := va'
  have ct := dl_c (show t < 2 ^ 31 by omega)
  by_cases g : va t = 0
  · obtain ⟨q', hq', e⟩ := dl_tg_r sk hq (show L < 2 ^ 31 by omega)
    have ej := (hj q hq (Or.inr (Or.inr (Or.inr k)))).trans e
    have et : dl_af sk L q = nI q' := (show dl_tg sk L q = dl_af sk L q from ((if_neg (by rw [k]; decide)).trans (if_neg (by rw [k]; decide)))).symm.trans e
    refine ⟨q', va, ov, oc, hq', ho, fun post z => ?_, fun post z => ?_⟩
    · unfold wpX_step
      refine nm_r (dl_m4 q) ⟨v0, nm_r (e' := 11) (by rw [c0]; exact p0.trans k) ⟨v1, nm_r (e' := nI t) (by rw [c1]; exact p1.trans ea) ⟨v2, nm_e ⟨v3, nm_e (br_f (by decide) (br_f (by decide) (br_f (by decide) (br_f (by decide) (br_f (by decide) (br_t rfl (?_)))))))⟩⟩⟩⟩
      unfold wX_step_80
      rw [ct, cq]
      exact ⟨vp_in_nI ht (by omega), br_t g ⟨vq, nm_r ej z⟩⟩
    · unfold wpY_exec
      refine ⟨vq, nm_r (e' := 11) (by rw [cq]; exact k) ⟨vq, nm_r (e' := nI t) (by rw [cq]; exact ea) ⟨vq, nm_e ⟨vq, nm_e (nm_r (nI_1 q) (br_f (by decide) (br_f (by decide) (br_f (by decide) (br_f (by decide) (br_f (by decide) (br_f (by decide) (br_f (by decide) (br_f (by decide) (br_f (by decide) (br_f (by decide) (br_t rfl ⟨vp_in_nI ht (by omega), ?_⟩))))))))))))⟩⟩⟩⟩
      rw [ct]
      rw [← et] at z
      exact br_t g (dy_after hL hq z)
  · refine ⟨q + 1, va, ov, oc, by omega, ho, fun post z => ?_, fun post z => ?_⟩
    · unfold wpX_step
      refine nm_r (dl_m4 q) ⟨v0, nm_r (e' := 11) (by rw [c0]; exact p0.trans k) ⟨v1, nm_r (e' := nI t) (by rw [c1]; exact p1.trans ea) ⟨v2, nm_e ⟨v3, nm_e (br_f (by decide) (br_f (by decide) (br_f (by decide) (br_f (by decide) (br_f (by decide) (br_t rfl (?_)))))))⟩⟩⟩⟩
      unfold wX_step_80
      rw [ct]
      exact ⟨vp_in_nI ht (by omega), br_f g (nm_r (nI_1 q) z)⟩
    · unfold wpY_exec
      refine ⟨vq, nm_r (e' := 11) (by rw [cq]; exact k) ⟨vq, nm_r (e' := nI t) (by rw [cq]; exact ea) ⟨vq, nm_e ⟨vq, nm_e (nm_r (nI_1 q) (br_f (by decide) (br_f (by decide) (br_f (by decide) (br_f (by decide) (br_f (by decide) (br_f (by decide) (br_f (by decide) (br_f (by decide) (br_f (by decide) (br_f (by decide) (br_t rfl ⟨vp_in_nI ht (by omega), ?_⟩))))))))))))⟩⟩⟩⟩
      rw [ct]
      exact br_f g z
theorem dl_h9 {P C L q : Nat} (hL : L ≤ 64) (hq : q < L) (ho : ∀ c, c < 4 → ∃ n, n ≤ 16 ∧ oc c = nI n) (hp : dl_P L st sk sa sb sc) (hj : ∀ q, q < L → dl_ct (sk q) → jm q = dl_tg sk L q) (k : sk q = 9) : dl_H P C L q xA xO xS xK yD dA aA po st jm pl op el so ip va ov oc ed cl sk sa sb sc jl pc sv bk be := by
  obtain ⟨p0, p1, p2, p3, _⟩ := hp q hq
  obtain ⟨v0, c0⟩ := dl_s0 (show q < 64 by omega)
  obtain ⟨v1, c1⟩ := dl_s1 (show q < 64 by omega)
  obtain ⟨v2, c2⟩ := dl_s2 (show q < 64 by omega)
  obtain ⟨v3, c3⟩ := dl_s3 (show q < 64 by omega)
  have vq : vp_in (nI q) 64 := vp_in_nI (by omega) (by omega)
  have cq := dl_c (show q < 2 ^ 31 by omega)
  obtain ⟨q', hq', e⟩ := dl_tg_r sk hq (show L < 2 ^ 31 by omega)
  have ej := (hj q hq (Or.inr (Or.inl k))).trans e
  have et : dl_af sk L q = nI q' := (show dl_tg sk L q = dl_af sk L q from ((if_neg (by rw [k]; decide)).trans (if_neg (by rw [k]; decide)))).symm.trans e
  refine ⟨q', va, ov, oc, hq', ho, fun post z => ?_, fun post z => ?_⟩
  · unfold wpX_step
    refine nm_r (dl_m4 q) ⟨v0, nm_r (e' := 9) (by rw [c0]; exact p0.trans k) ⟨v1, nm_e ⟨v2, nm_e ⟨v3, nm_e (br_f (by decide) (br_f (by decide) (br_f (by decide) (br_t rfl (?_)))))⟩⟩⟩⟩
    unfold wX_step_114
    rw [cq]
    exact ⟨vq, nm_r ej z⟩
  · unfold wpY_exec
    rw [← et] at z
    exact ⟨vq, nm_r (e' := 9) (by rw [cq]; exact k) ⟨vq, nm_e ⟨vq, nm_e ⟨vq, nm_e (nm_r (nI_1 q) (br_f (by decide) (br_f (by decide) (br_f (by decide) (br_f (by decide) (br_f (by decide) (br_f (by decide) (br_f (by decide) (br_f (by decide) (br_f (by decide) (br_f (by decide) (br_f (by decide) (br_t rfl (dy_after hL hq z))))))))))))))⟩⟩⟩⟩
theorem dl_h10 {P C L q : Nat} (hL : L ≤ 64) (hq : q < L) (ho : ∀ c, c < 4 → ∃ n, n ≤ 16 ∧ oc c = nI n) (hp : dl_P L st sk sa sb sc) (hj : ∀ q, q < L → dl_ct (sk q) → jm q = dl_tg sk L q) (k : sk q = 10) : dl_H P C L q xA xO xS xK yD dA aA po st jm pl op el so ip va ov oc ed cl sk sa sb sc jl pc sv bk be := by
  obtain ⟨p0, p1, p2, p3, _⟩ := hp q hq
  obtain ⟨v0, c0⟩ := dl_s0 (show q < 64 by omega)
  obtain ⟨v1, c1⟩ := dl_s1 (show q < 64 by omega)
  obtain ⟨v2, c2⟩ := dl_s2 (show q < 64 by omega)
  obtain ⟨v3, c3⟩ := dl_s3 (show q < 64 by omega)
  have vq : vp_in (nI q) 64 := vp_in_nI (by omega) (by omega)
  have cq := dl_c (show q < 2 ^ 31 by omega)
  obtain ⟨q', hq', e⟩ := dl_tg_r sk hq (show L < 2 ^ 31 by omega)
  have ej := (hj q hq (Or.inr (Or.inr (Or.inl k)))).trans e
  have et : dl_en sk q = nI q' := (show dl_tg sk L q = dl_en sk q from ((if_neg (by rw [k]; decide)).trans (if_pos k))).symm.trans e
  refine ⟨q', va, ov, oc, hq', ho, fun post z => ?_, fun post z => ?_⟩
  · unfold wpX_step
    refine nm_r (dl_m4 q) ⟨v0, nm_r (e' := 10) (by rw [c0]; exact p0.trans k) ⟨v1, nm_e ⟨v2, nm_e ⟨v3, nm_e (br_f (by decide) (br_f (by decide) (br_f (by decide) (br_f (by decide) (br_t rfl (?_))))))⟩⟩⟩⟩
    unfold wX_step_114
    rw [cq]
    exact ⟨vq, nm_r ej z⟩
  · unfold wpY_exec
    rw [← et] at z
    refine ⟨vq, nm_r (e' := 10) (by rw [cq]; exact k) ⟨vq, nm_e ⟨vq, nm_e ⟨vq, nm_e (nm_r (nI_1 q) (br_f (by decide) (br_f (by decide) (br_f (by decide) (br_f (by decide) (br_f (by decide) (br_f (by decide) (br_f (by decide) (br_f (by decide) (br_f (by decide) (br_f (by decide) (br_f (by decide) (br_f (by decide) (br_t rfl (dy_back (by omega) ?_)))))))))))))))⟩⟩⟩⟩
    unfold dl_en at z
    refine br_c (fun y => ?_) (fun y => ?_)
    · rw [if_neg (fun u => absurd y (Int32.not_lt.mpr u.1))] at z
      exact z
    · rcases dl_sb_r sk q 0 with u | ⟨r, hr, u⟩
      · rw [u] at y
        exact absurd (by decide) y
      · rw [u] at z y ⊢
        rw [dl_c (show r < 2 ^ 31 by omega)] at z ⊢
        refine ⟨vp_in_nI (by omega) (by omega), br_c (fun s => ?_) (fun s => ?_)⟩
        · rw [if_pos ⟨nI_pos' (by omega), s⟩] at z
          exact z
        · rw [if_neg (fun v => s v.2)] at z
          exact z
theorem dl_h {P C L q : Nat} (hL : L ≤ 64) (hq : q < L) (ho : ∀ c, c < 4 → ∃ n, n ≤ 16 ∧ oc c = nI n) (hp : dl_P L st sk sa sb sc) (hj : ∀ q, q < L → dl_ct (sk q) → jm q = dl_tg sk L q) : dl_H P C L q xA xO xS xK yD dA aA po st jm pl op el so ip va ov oc ed cl sk sa sb sc jl pc sv bk be := by
  obtain ⟨p0, p1, p2, p3, p4⟩ := hp q hq
  rcases p4 with ⟨k, a⟩ | ⟨k, a, b⟩ | ⟨k, a, b⟩ | ⟨k, a, b, c⟩ | ⟨k, a⟩ | k | k | ⟨k, a, b⟩
  · exact dl_h1 hL hq ho hp k a
  · exact dl_h2 hL hq ho hp k a b
  · exact dl_h13 hL hq ho hp k a b
  · rcases k with k | k | k | k | k
    · exact dl_h3 hL hq ho hp k a b c
    · exact dl_h4 hL hq ho hp k a b c
    · exact dl_h5 hL hq ho hp k a b c
    · exact dl_h6 hL hq ho hp k a b c
    · exact dl_h7 hL hq ho hp k a b c
  · rcases k with k | k
    · exact dl_h8 hL hq ho hp hj k a
    · exact dl_h11 hL hq ho hp hj k a
  · exact dl_h9 hL hq ho hp hj k
  · exact dl_h10 hL hq ho hp hj k
  · exact dl_h12 hL hq ho hp k a b
/-- a whole call of run, both sides -/
theorem dl_run {P C L m : Nat} (hL : L ≤ 64) (hm : m ≤ 1000) (hp : dl_P L st sk sa sb sc) (hj : ∀ q, q < L → dl_ct (sk q) → jm q = dl_tg sk L q) : ∀ (d t q : Nat) (va ov oc : Nat → Int32), t + d = m → q ≤ L → (∀ c, c < 4 → ∃ n, n ≤ 16 ∧ oc c = nI n) → ∃ (s : Int32) (q' : Nat) (va' ov' oc' : Nat → Int32), ¬ s = 0 ∧ q' ≤ L ∧ (∀ c, c < 4 → ∃ n, n ≤ 16 ∧ oc' c = nI n) ∧ (∀ post : Int32 → SX → Prop, post s (nI P, nI C, xA, nI L, xO, nI q', s, xK, dA, aA, po, st, jm, pl, op, el, so, ip, va', ov', oc') → wX_run_24 post (nI m) (d + 1) (nI t) (nI P) (nI C) xA (nI L) xO (nI q) 2 xK dA aA po st jm pl op el so ip va ov oc) ∧ (∀ post : Int32 → SY → Prop, post s (nI P, nI C, xA, nI L, nI q', s, xK, yD, ed, cl, po, sk, sa, sb, sc, ip, va', ov', oc', jl, pc, sv, bk, be) → wY_run_39 post (nI m) (d + 1) (nI t) (nI P) (nI C) xA (nI L) (nI q) 2 xK yD ed cl po sk sa sb sc ip va ov oc jl pc sv bk be) := by
  intro d
  induction d with
  | zero =>
    intro t q va ov oc hd hq ho
    have e : t = m := by omega
    subst e
    have le : nI t ≤ nI t := nI_le (Nat.le_refl _) (by omega)
    have nl : ¬ nI t < nI t := nI_nlt (Nat.le_refl _) (by omega)
    rcases Nat.lt_or_ge q L with h | h
    · exact ⟨2, q, va, ov, oc, by decide, hq, ho, fun post z => br_t le (br_t (nI_lt h (by omega)) z), fun post z => br_f nl (br_f (nI_ge h (by omega)) (br_t (nI_pos' (by omega)) (br_t rfl z)))⟩
    · exact ⟨3, q, va, ov, oc, by decide, hq, ho, fun post z => br_t le (br_f (nI_nlt h (by omega)) z), fun post z => br_f nl (br_t (nI_le h (by omega)) z)⟩
  | succ d ih =>
    intro t q va ov oc hd hq ho
    have ge : ¬ nI m ≤ nI t := nI_ge (by omega) (by omega)
    have nl : ¬ nI m < nI t := nI_nlt (by omega) (by omega)
    rcases Nat.lt_or_ge q L with h | h
    · obtain ⟨q1, va1, ov1, oc1, a1, a2, a3, a4⟩ := dl_h (P := P) (C := C) (xA := xA) (xO := xO) (xS := 2) (xK := xK) (yD := yD) (dA := dA) (aA := aA) (po := po) (jm := jm) (pl := pl) (op := op) (el := el) (so := so) (ip := ip) (va := va) (ov := ov) (ed := ed) (cl := cl) (jl := jl) (pc := pc) (sv := sv) (bk := bk) (be := be) hL h ho hp hj
      obtain ⟨s, q2, va2, ov2, oc2, b1, b2, b3, b4, b5⟩ := ih (t + 1) q1 va1 ov1 oc1 (by omega) a1 a2
      exact ⟨s, q2, va2, ov2, oc2, b1, b2, b3, fun post z => br_f ge (br_f (nI_ge h (by omega)) (a3 _ (nm_r (nI_1 t) (b4 post z)))), fun post z => br_f nl (br_f (nI_ge h (by omega)) (br_t (nI_pos' (by omega)) (br_f (fun w => absurd ((nI_eq (by omega) (by omega)).mp w) (by omega)) (a4 _ (nm_r (nI_1 t) (b5 post z))))))⟩
    · exact ⟨3, q, va, ov, oc, by decide, hq, ho, fun post z => br_f ge (br_t (nI_le h (by omega)) (br_f (nI_nlt h (by omega)) z)), fun post z => br_f nl (br_t (nI_le h (by omega)) z)⟩
end
end
section
/-! the relation, and the small methods -/
section
variable {xP xC xA xL xO xQ xS xK yP yC yA yL yQ yS yK yD : Int32} {dA aA po st jm pl op el so ip va ov oc ed cl py sk sa sb sc yi yv yo yn jl pc sv bk be : Nat → Int32}
def dl_Q (P C L q : Nat) (xS : Int32) (dA aA st jm oc ed sk sa sb sc : Nat → Int32) : Prop := (2 ≤ P ∧ P ≤ 8) ∧ (L ≤ C ∧ C ≤ 64) ∧ q ≤ L ∧ (∀ p, p < P → ∀ a, bt (dA p) a = true → a < P) ∧ dl_A P dA aA ∧ (∀ i j, i < P → j < P → (¬ ed (i * 8 + j) = 0 ↔ dl_E dA i j)) ∧ dl_P L st sk sa sb sc ∧ (∀ c, c < 4 → ∃ n, n ≤ 16 ∧ oc c = nI n) ∧ (¬ xS = 0 → ∀ q, q < L → dl_ct (sk q) → jm q = dl_tg sk L q)
def i_Rel (_ : Nat) (u : SX) (v : SY) : Prop := match u with
  | (xP, xC, xA, xL, xO, xQ, xS, xK, dA, aA, po, st, jm, pl, op, el, so, ip, va, ov, oc) => match v with
    | (yP, yC, yA, yL, yQ, yS, yK, yD, ed, cl, py, sk, sa, sb, sc, yi, yv, yo, yn, jl, pc, sv, bk, be) => ∃ P C L q : Nat, xP = nI P ∧ yP = nI P ∧ xC = nI C ∧ yC = nI C ∧ xL = nI L ∧ yL = nI L ∧ xQ = nI q ∧ yQ = nI q ∧ xA = yA ∧ xS = yS ∧ xK = yK ∧ po = py ∧ ip = yi ∧ va = yv ∧ ov = yo ∧ oc = yn ∧ dl_Q P C L q xS dA aA st jm oc ed sk sa sb sc
theorem i_up {k : Nat} {u : SX} {v : SY} (h : i_Rel k u v) : i_Rel (k + 5) u v := h
theorem dl_mk {k P C L q : Nat} (Q : dl_Q P C L q xS dA aA st jm oc ed sk sa sb sc) : i_Rel k (nI P, nI C, xA, nI L, xO, nI q, xS, xK, dA, aA, po, st, jm, pl, op, el, so, ip, va, ov, oc) (nI P, nI C, xA, nI L, nI q, xS, xK, yD, ed, cl, po, sk, sa, sb, sc, ip, va, ov, oc, jl, pc, sv, bk, be) := ⟨P, C, L, q, rfl, rfl, rfl, rfl, rfl, rfl, rfl, rfl, rfl, rfl, rfl, rfl, rfl, rfl, rfl, rfl, Q⟩
theorem dl_zn4 (f : Nat → Int32) : ∀ c, c < 4 → ∃ n, n ≤ 16 ∧ dl_zn f 4 c = nI n := by
  intro c hc
  refine ⟨0, by omega, ?_⟩
  have e : c = 0 ∨ c = 1 ∨ c = 2 ∨ c = 3 := by omega
  rcases e with e | e | e | e <;> subst e <;> rfl
theorem dl_Qr {P C L q : Nat} (Q : dl_Q P C L q xS dA aA st jm oc ed sk sa sb sc) : dl_Q P C L 0 0 dA aA st jm (dl_zn oc 4) ed sk sa sb sc := ⟨Q.1, Q.2.1, Nat.zero_le _, Q.2.2.2.1, Q.2.2.2.2.1, Q.2.2.2.2.2.1, Q.2.2.2.2.2.2.1, dl_zn4 oc, fun z => absurd rfl z⟩
theorem dl_mkr {k P C L : Nat} (Q : dl_Q P C L 0 0 dA aA st jm (dl_zn oc 4) ed sk sa sb sc) : i_Rel k (nI P, nI C, xA, nI L, xO, 0, 0, -1, dA, aA, po, st, jm, pl, op, el, so, ip, va, ov, dl_zn oc 4) (nI P, nI C, xA, nI L, 0, 0, -1, yD, ed, cl, po, sk, sa, sb, sc, ip, va, ov, dl_zn oc 4, jl, pc, sv, bk, be) := dl_mk (q := 0) (xS := 0) (oc := dl_zn oc 4) Q
/-! ranges -/
theorem dl_rg (x : Int32) {n : Nat} (hn : n < 2 ^ 31) : (x < 0 ∨ (¬ x < 0 ∧ nI n ≤ x)) ∨ ∃ j : Nat, j < n ∧ x = nI j := by
  by_cases h : x < 0
  · exact Or.inl (Or.inl h)
  · rcases pk_ix x hn with z | z | z
    · exact absurd z h
    · exact Or.inl (Or.inr ⟨h, z⟩)
    · exact Or.inr z
theorem dx_isP1 {post : Int32 → Prop} {P j : Nat} (hP : P ≤ 8) (hj : j < P) (h : post 1) : wpX_isPrincipal post (nI P, xC, xA, xL, xO, xQ, xS, xK, dA, aA, po, st, jm, pl, op, el, so, ip, va, ov, oc) (nI j) := by
  unfold wpX_isPrincipal
  exact br_f (nI_pos (by omega)) (br_f (nI_ge hj (by omega)) h)
theorem dx_isP0 {post : Int32 → Prop} {P : Nat} {x : Int32} (b : x < 0 ∨ (¬ x < 0 ∧ nI P ≤ x)) (h : post 0) : wpX_isPrincipal post (nI P, xC, xA, xL, xO, xQ, xS, xK, dA, aA, po, st, jm, pl, op, el, so, ip, va, ov, oc) x := by
  unfold wpX_isPrincipal
  rcases b with b | b
  · exact br_t b h
  · exact br_f b.1 (br_t b.2 h)
theorem dy_isP1 {post : Int32 → Prop} {P j : Nat} (hP : P ≤ 8) (hj : j < P) (h : post 1) : wpY_isP post (nI P, yC, yA, yL, yQ, yS, yK, yD, ed, cl, py, sk, sa, sb, sc, yi, yv, yo, yn, jl, pc, sv, bk, be) (nI j) := by
  unfold wpY_isP
  exact br_f (nI_pos (by omega)) (br_f (nI_ge hj (by omega)) h)
theorem dy_isP0 {post : Int32 → Prop} {P : Nat} {x : Int32} (b : x < 0 ∨ (¬ x < 0 ∧ nI P ≤ x)) (h : post 0) : wpY_isP post (nI P, yC, yA, yL, yQ, yS, yK, yD, ed, cl, py, sk, sa, sb, sc, yi, yv, yo, yn, jl, pc, sv, bk, be) x := by
  unfold wpY_isP
  rcases b with b | b
  · exact br_t b h
  · exact br_f b.1 (br_t b.2 h)
theorem dx_isTarget1 {post : Int32 → Prop} {j : Nat} (hj : j < 20) (h : post 1) : wpX_isTarget post (nI j) := by
  unfold wpX_isTarget
  exact br_f (nI_pos (by omega)) (br_f (nI_ge (b := 20) hj (by omega)) h)
theorem dx_isTarget0 {post : Int32 → Prop} {x : Int32} (b : x < 0 ∨ (¬ x < 0 ∧ nI 20 ≤ x)) (h : post 0) : wpX_isTarget post x := by
  unfold wpX_isTarget
  rcases b with b | b
  · exact br_t b h
  · exact br_f b.1 (br_t b.2 h)
theorem dx_isVariable1 {post : Int32 → Prop} {j : Nat} (hj : j < 16) (h : post 1) : wpX_isVariable post (nI j) := by
  unfold wpX_isVariable
  exact br_f (nI_pos (by omega)) (br_f (nI_ge (b := 16) hj (by omega)) h)
theorem dx_isVariable0 {post : Int32 → Prop} {x : Int32} (b : x < 0 ∨ (¬ x < 0 ∧ nI 16 ≤ x)) (h : post 0) : wpX_isVariable post x := by
  unfold wpX_isVariable
  rcases b with b | b
  · exact br_t b h
  · exact br_f b.1 (br_t b.2 h)
theorem dx_isChannel1 {post : Int32 → Prop} {j : Nat} (hj : j < 4) (h : post 1) : wpX_isChannel post (nI j) := by
  unfold wpX_isChannel
  exact br_f (nI_pos (by omega)) (br_f (nI_ge (b := 4) hj (by omega)) h)
theorem dx_isChannel0 {post : Int32 → Prop} {x : Int32} (b : x < 0 ∨ (¬ x < 0 ∧ nI 4 ≤ x)) (h : post 0) : wpX_isChannel post x := by
  unfold wpX_isChannel
  rcases b with b | b
  · exact br_t b h
  · exact br_f b.1 (br_t b.2 h)
theorem dy_isVar1 {post : Int32 → Prop} {j : Nat} (hj : j < 16) (h : post 1) : wpY_isVar post (yP, yC, yA, yL, yQ, yS, yK, yD, ed, cl, py, sk, sa, sb, sc, yi, yv, yo, yn, jl, pc, sv, bk, be) (nI j) := by
  unfold wpY_isVar
  exact br_f (nI_pos (by omega)) (br_f (nI_ge (b := 16) hj (by omega)) h)
theorem dy_isVar0 {post : Int32 → Prop} {x : Int32} (b : x < 0 ∨ (¬ x < 0 ∧ nI 16 ≤ x)) (h : post 0) : wpY_isVar post (yP, yC, yA, yL, yQ, yS, yK, yD, ed, cl, py, sk, sa, sb, sc, yi, yv, yo, yn, jl, pc, sv, bk, be) x := by
  unfold wpY_isVar
  rcases b with b | b
  · exact br_t b h
  · exact br_f b.1 (br_t b.2 h)
/-! the mask of all principals -/
theorem dl_sh : ∀ P, P ≤ 8 → ((1 : Int32) <<< (nI P &&& 31)) = nI (2 ^ P) := by
  intro P hP
  exact (by decide +kernel : ∀ P : Fin 9, ((1 : Int32) <<< (nI P.val &&& 31)) = nI (2 ^ P.val)) ⟨P, by omega⟩
theorem dl_2P {P : Nat} (hP : P ≤ 8) : 2 ^ P < 2 ^ 31 := Nat.pow_lt_pow_right (by decide) (by omega)
theorem dl_m1lt {n : Nat} (h : n < 2 ^ 31) : (-1 : Int32) < nI n := by
  rw [Int32.lt_iff_toInt_lt, nI_toInt h]
  have e1 : (-1 : Int32).toInt = -1 := by decide
  omega
theorem dx_isPS0a {post : Int32 → Prop} {P : Nat} {x : Int32} (b : x < 0) (h : post 0) : wpX_isPrincipalSet post (nI P, xC, xA, xL, xO, xQ, xS, xK, dA, aA, po, st, jm, pl, op, el, so, ip, va, ov, oc) x := by
  unfold wpX_isPrincipalSet
  exact br_t b h
theorem dx_isPS0b {post : Int32 → Prop} {P : Nat} {x : Int32} (hP : P ≤ 8) (a : ¬ x < 0) (b : nI (2 ^ P) ≤ x) (h : post 0) : wpX_isPrincipalSet post (nI P, xC, xA, xL, xO, xQ, xS, xK, dA, aA, po, st, jm, pl, op, el, so, ip, va, ov, oc) x := by
  have sh := dl_sh P hP
  unfold wpX_isPrincipalSet
  dsimp only
  rw [sh]
  exact br_f a (br_t b h)
theorem dx_isPS1 {post : Int32 → Prop} {P : Nat} {x : Int32} (hP : P ≤ 8) (a : ¬ x < 0) (b : ¬ nI (2 ^ P) ≤ x) (h : post 1) : wpX_isPrincipalSet post (nI P, xC, xA, xL, xO, xQ, xS, xK, dA, aA, po, st, jm, pl, op, el, so, ip, va, ov, oc) x := by
  have sh := dl_sh P hP
  unfold wpX_isPrincipalSet
  dsimp only
  rw [sh]
  exact br_f a (br_f b h)
theorem dl_bon {d : Int32} {i x : Nat} (hi : i < 32) : bt (d ||| ((1 : Int32) <<< (nI i &&& 31))) x = true ↔ bt d x = true ∨ x = i := by
  rcases Nat.lt_or_ge x 32 with h | h
  · rw [b_or, dl_one hi h, Bool.or_eq_true, decide_eq_true_iff]
  · rw [b_big h, b_big h]
    exact ⟨fun z => absurd z (by decide), fun z => z.elim (fun y => absurd y (by decide)) (fun y => by omega)⟩
theorem dl_boff {d : Int32} {i x : Nat} (hi : i < 32) : bt (d &&& (((1 : Int32) <<< (nI i &&& 31)) ^^^ (-1))) x = true ↔ bt d x = true ∧ ¬ x = i := by
  rcases Nat.lt_or_ge x 32 with h | h
  · rw [b_and, b_xor, dl_one hi h, b_m1 x h, Bool.and_eq_true]
    by_cases e : x = i
    · rw [decide_eq_true e]
      exact ⟨fun z => absurd z.2 (by decide), fun z => absurd e z.2⟩
    · rw [decide_eq_false e]
      exact ⟨fun z => ⟨z.1, e⟩, fun z => ⟨z.1, by decide⟩⟩
  · rw [b_big h, b_big h]
    exact ⟨fun z => absurd z (by decide), fun z => absurd z.1 (by decide)⟩
theorem dl_edge {P i j : Nat} {D2 : Int32} {ez : Int32} (P8 : P ≤ 8) (hi : i < P) (hj : j < P) (hE : ∀ i j, i < P → j < P → (¬ ed (i * 8 + j) = 0 ↔ dl_E dA i j)) (h : ∀ x, bt D2 x = true ↔ (x = i ∧ ¬ ez = 0) ∨ (¬ x = i ∧ bt (dA j) x = true)) : ∀ x y, x < P → y < P → (¬ upd ed (i * 8 + j) ez (x * 8 + y) = 0 ↔ dl_E (upd dA j D2) x y) := by
  intro x y hx hy
  unfold dl_E
  by_cases e : y = j
  · subst e
    rw [pk_us, h x]
    by_cases f : x = i
    · subst f
      rw [pk_us]
      exact ⟨fun z => Or.inl ⟨rfl, z⟩, fun z => z.elim (fun u => u.2) (fun u => absurd rfl u.1)⟩
    · rw [pk_un (by omega), hE x y hx hy]
      exact ⟨fun z => Or.inr ⟨f, z⟩, fun z => z.elim (fun u => absurd u.1 f) (fun u => u.2)⟩
  · rw [pk_un (by omega), pk_un e]
    exact hE x y hx hy
theorem i_vc_setActsFor {k : Nat} {u : SX} {v : SY} (I : i_Rel k u v) (hk : k + 5 ≤ 2562) (v1 : Int32) (v2 : Int32) (v3 : Int32) : wpX_setActsFor (fun r u' => wpY_setActsFor (fun r' v' => r' = r ∧ i_Rel (k + 5) u' v') v v1 v2 (lw_bz v3)) u v1 v2 (lw_bz v3) := by
  have J := I
  obtain ⟨xP, xC, xA, xL, xO, xQ, xS, xK, dA, aA, po, st, jm, pl, op, el, so, ip, va, ov, oc⟩ := u
  obtain ⟨yP, yC, yA, yL, yQ, yS, yK, yD, ed, cl, py, sk, sa, sb, sc, yi, yv, yo, yn, jl, pc, sv, bk, be⟩ := v
  obtain ⟨P, C, L, q, rfl, rfl, rfl, rfl, rfl, rfl, rfl, rfl, rfl, rfl, rfl, rfl, rfl, rfl, rfl, rfl, Q⟩ := I
  obtain ⟨⟨P2, P8⟩, ⟨LC, C64⟩, qL, hD, hA, hE, hp, ho, hj⟩ := id Q
  rcases dl_rg v1 (n := P) (by omega) with b | ⟨i, hi, rfl⟩
  · unfold wpX_setActsFor
    refine dx_isP0 b (br_t rfl ?_)
    unfold wpY_setActsFor
    exact dy_isP0 b (br_t rfl ⟨rfl, J⟩)
  rcases dl_rg v2 (n := P) (by omega) with b | ⟨j, hj', rfl⟩
  · unfold wpX_setActsFor
    refine dx_isP1 P8 hi (br_f (by decide) (dx_isP0 b (br_t rfl ?_)))
    unfold wpY_setActsFor
    exact dy_isP1 P8 hi (br_f (by decide) (dy_isP0 b (br_t rfl ⟨rfl, J⟩)))
  by_cases e : i = j
  · subst e
    unfold wpX_setActsFor
    refine dx_isP1 P8 hi (br_f (by decide) (dx_isP1 P8 hi (br_f (by decide) (br_t rfl ?_))))
    unfold wpY_setActsFor
    exact dy_isP1 P8 hi (br_f (by decide) (dy_isP1 P8 hi (br_f (by decide) (br_t rfl ⟨rfl, J⟩))))
  have ne : ¬ nI i = nI j := fun z => e ((nI_eq (by omega) (by omega)).mp z)
  have vj : vp_in (nI j) 8 := vp_in_nI (by omega) (by omega)
  have cj := dl_c (show j < 2 ^ 31 by omega)
  have ve : vp_in (nI (i * 8 + j)) 64 := vp_in_nI (by omega) (by omega)
  have ce := dl_c (show i * 8 + j < 2 ^ 31 by omega)
  have fin : ∀ (D2 ez : Int32), (∀ x, bt D2 x = true ↔ (x = i ∧ ¬ ez = 0) ∨ (¬ x = i ∧ bt (dA j) x = true)) → vp_nar .boolean (lw_bz v3) = ez → wX_setActsFor_56 (fun r u' => wpY_setActsFor (fun r' v' => r' = r ∧ i_Rel (k + 5) u' v') (nI P, nI C, xA, nI L, nI q, xS, xK, yD, ed, cl, po, sk, sa, sb, sc, ip, va, ov, oc, jl, pc, sv, bk, be) (nI i) (nI j) (lw_bz v3)) (nI P) (nI C) xA (nI L) xO (nI q) xS xK (upd dA j D2) aA po st jm pl op el so ip va ov oc := by
    intro D2 ez hb hz
    unfold wX_setActsFor_56
    have hD2 : ∀ p, p < P → ∀ a, bt (upd dA j D2 p) a = true → a < P := by
      intro p hp a ha
      by_cases f : p = j
      · subst f
        rw [pk_us] at ha
        rcases (hb a).mp ha with z | z
        · omega
        · exact hD p hp a z.2
      · rw [pk_un f] at ha
        exact hD p hp a ha
    refine dx_close P8 hD2 (fun A' hA' => dx_reset ?_)
    unfold wpY_setActsFor
    refine dy_isP1 P8 hi (br_f (by decide) (dy_isP1 P8 hj' (br_f (by decide) (br_f ne ?_))))
    rw [dl_m8, ce, hz]
    exact ⟨ve, nm_e (dy_reset ⟨rfl, dl_mkr ⟨⟨P2, P8⟩, ⟨LC, C64⟩, Nat.zero_le _, hD2, hA', dl_edge P8 hi hj' hE hb, hp, dl_zn4 oc, fun z => absurd rfl z⟩⟩)⟩
  unfold wpX_setActsFor
  refine dx_isP1 P8 hi (br_f (by decide) (dx_isP1 P8 hj' (br_f (by decide) (br_f ne (br_c (fun z => ?_) (fun z => ?_))))))
  · rw [cj]
    refine ⟨vj, vj, nm_e (fin _ 0 (fun x => ?_) (by rw [z, dl_vb0]))⟩
    rw [dl_boff (by omega)]
    exact ⟨fun y => Or.inr ⟨y.2, y.1⟩, fun y => y.elim (fun u => absurd rfl u.2) (fun u => ⟨u.2, u.1⟩)⟩
  · rw [cj]
    refine ⟨vj, vj, nm_e (fin _ 1 (fun x => ?_) ?_)⟩
    · rw [dl_bon (by omega)]
      by_cases f : x = i
      · exact ⟨fun _ => Or.inl ⟨f, by decide⟩, fun _ => Or.inr f⟩
      · exact ⟨fun y => y.elim (fun u => Or.inr ⟨f, u⟩) (fun u => absurd u f), fun y => y.elim (fun u => absurd u.1 f) (fun u => Or.inl u.2)⟩
    · rcases lw_bz_01 v3 with y | y
      · exact absurd y z
      · rw [y, dl_vb1]
theorem i_vc_actsFor {k : Nat} {u : SX} {v : SY} (I : i_Rel k u v) (hk : k + 5 ≤ 2562) (v1 : Int32) (v2 : Int32) : wpX_actsFor (fun r => wpY_actsFor (fun r' v' => r' = r ∧ i_Rel (k + 5) u v') v v1 v2) u v1 v2 := by
  have J := I
  obtain ⟨xP, xC, xA, xL, xO, xQ, xS, xK, dA, aA, po, st, jm, pl, op, el, so, ip, va, ov, oc⟩ := u
  obtain ⟨yP, yC, yA, yL, yQ, yS, yK, yD, ed, cl, py, sk, sa, sb, sc, yi, yv, yo, yn, jl, pc, sv, bk, be⟩ := v
  obtain ⟨P, C, L, q, rfl, rfl, rfl, rfl, rfl, rfl, rfl, rfl, rfl, rfl, rfl, rfl, rfl, rfl, rfl, rfl, Q⟩ := I
  obtain ⟨⟨P2, P8⟩, ⟨LC, C64⟩, qL, hD, hA, hE, hp, ho, hj⟩ := id Q
  rcases dl_rg v1 (n := P) (by omega) with b | ⟨i, hi, rfl⟩
  · unfold wpX_actsFor
    refine dx_isP0 b (br_t rfl ?_)
    unfold wpY_actsFor
    exact dy_isP0 b (br_t rfl ⟨rfl, J⟩)
  rcases dl_rg v2 (n := P) (by omega) with b | ⟨j, hj', rfl⟩
  · unfold wpX_actsFor
    refine dx_isP1 P8 hi (br_f (by decide) (dx_isP0 b (br_t rfl ?_)))
    unfold wpY_actsFor
    exact dy_isP1 P8 hi (br_f (by decide) (dy_isP0 b (br_t rfl ⟨rfl, J⟩)))
  have fin : ∀ r : Int32, (r = 0 ∨ r = 1) → (¬ r = 0 ↔ bt (aA j) i = true) → wpY_actsFor (fun r' v' => r' = r ∧ i_Rel (k + 5) (nI P, nI C, xA, nI L, xO, nI q, xS, xK, dA, aA, po, st, jm, pl, op, el, so, ip, va, ov, oc) v') (nI P, nI C, xA, nI L, nI q, xS, xK, yD, ed, cl, po, sk, sa, sb, sc, ip, va, ov, oc, jl, pc, sv, bk, be) (nI i) (nI j) := by
    intro r h01 hr
    unfold wpY_actsFor
    refine dy_isP1 P8 hi (br_f (by decide) (dy_isP1 P8 hj' (br_f (by decide) (dy_close (by omega) P8 hE (fun C' hC => ?_)))))
    have ca := dl_CAof hA hC i j hi hj'
    have c01 := hC.1 (i * 8 + j) (by omega)
    have e : C' (i * 8 + j) = r := by
      rcases c01 with c | c <;> rcases h01 with d | d
      · rw [c, d]
      · exact absurd c (ca.mpr (hr.mp (by rw [d]; decide)))
      · exact absurd d (hr.mpr (ca.mp (by rw [c]; decide)))
      · rw [c, d]
    show vp_in (nI i * 8 + nI j) 64 ∧ _
    rw [dl_m8, dl_c (show i * 8 + j < 2 ^ 31 by omega), e]
    refine ⟨vp_in_nI (by omega) (by omega), ?_, rfl, dl_mk Q⟩
    rcases h01 with d | d <;> subst d <;> rfl
  unfold wpX_actsFor
  refine dx_isP1 P8 hi (br_f (by decide) (dx_isP1 P8 hj' (br_f (by decide) ⟨vp_in_nI (by omega) (by omega), ?_⟩)))
  rw [dl_c (show j < 2 ^ 31 by omega)]
  exact dx_contains (by omega) (fun z => br_f (by decide) (fin 1 (Or.inr rfl) ⟨fun _ => z, fun _ => by decide⟩)) (fun z => br_t rfl (fin 0 (Or.inl rfl) ⟨fun y => absurd rfl y, fun y => absurd y (by rw [z]; decide)⟩))
theorem dl_cases (x : Int32) {n : Nat} (hn : n < 2 ^ 31) : x = -1 ∨ (x < -1 ∧ x < 0 ∧ ¬ x = -1) ∨ (¬ x < 0 ∧ nI n ≤ x ∧ ¬ x < nI n ∧ ¬ x < -1 ∧ ¬ x = -1) ∨ (¬ x < 0 ∧ ¬ nI n ≤ x ∧ x < nI n ∧ ¬ x < -1 ∧ ¬ x = -1) := by
  have e1 : (-1 : Int32).toInt = -1 := by decide
  have e0 : (0 : Int32).toInt = 0 := by decide
  by_cases h : x = -1
  · exact Or.inl h
  · have h' : ¬ x.toInt = -1 := fun z => h (Int32.toInt_inj.mp (by rw [z, e1]))
    simp only [Int32.lt_iff_toInt_lt, Int32.le_iff_toInt_le, e1, e0, nI_toInt hn]
    by_cases a : x.toInt < 0
    · exact Or.inr (Or.inl ⟨by omega, a, h⟩)
    · by_cases b : (n : Int) ≤ x.toInt
      · exact Or.inr (Or.inr (Or.inl ⟨a, b, by omega, by omega, h⟩))
      · exact Or.inr (Or.inr (Or.inr ⟨a, b, by omega, by omega, h⟩))
theorem i_vc_setPolicy {k : Nat} {u : SX} {v : SY} (I : i_Rel k u v) (hk : k + 5 ≤ 2562) (v1 : Int32) (v2 : Int32) (v3 : Int32) : wpX_setPolicy (fun r u' => wpY_setPolicy (fun r' v' => r' = r ∧ i_Rel (k + 5) u' v') v v1 v2 v3) u v1 v2 v3 := by
  have J := I
  obtain ⟨xP, xC, xA, xL, xO, xQ, xS, xK, dA, aA, po, st, jm, pl, op, el, so, ip, va, ov, oc⟩ := u
  obtain ⟨yP, yC, yA, yL, yQ, yS, yK, yD, ed, cl, py, sk, sa, sb, sc, yi, yv, yo, yn, jl, pc, sv, bk, be⟩ := v
  obtain ⟨P, C, L, q, rfl, rfl, rfl, rfl, rfl, rfl, rfl, rfl, rfl, rfl, rfl, rfl, rfl, rfl, rfl, rfl, Q⟩ := I
  obtain ⟨⟨P2, P8⟩, ⟨LC, C64⟩, qL, hD, hA, hE, hp, ho, hj⟩ := id Q
  have sh := dl_sh P P8
  have p31 := dl_2P P8
  have m1 : (-1 : Int32) < nI (2 ^ P) := dl_m1lt p31
  rcases dl_rg v1 (n := 20) (by omega) with b | ⟨t, ht, rfl⟩
  · unfold wpX_setPolicy
    refine dx_isTarget0 b (br_t rfl ?_)
    unfold wpY_setPolicy
    rcases b with b | b
    · exact br_t b ⟨rfl, J⟩
    · exact br_f b.1 (br_t b.2 ⟨rfl, J⟩)
  have t0 : ¬ nI t < 0 := nI_pos (by omega)
  have t20 : ¬ (20 : Int32) ≤ nI t := nI_ge (b := 20) ht (by omega)
  rcases dl_rg v2 (n := P) (by omega) with b | ⟨o, ho', rfl⟩
  · unfold wpX_setPolicy
    refine dx_isTarget1 ht (br_f (by decide) (dx_isP0 b (br_t rfl ?_)))
    unfold wpY_setPolicy
    exact br_f t0 (br_f t20 (dy_isP0 b (br_t rfl ⟨rfl, J⟩)))
  have v160 : vp_in (nI (t * 8 + o)) 160 := vp_in_nI (by omega) (by omega)
  have c160 := dl_c (show t * 8 + o < 2 ^ 31 by omega)
  have acc : ¬ v3 < -1 → v3 < nI (2 ^ P) → wX_setPolicy_32 (fun r u' => wpY_setPolicy (fun r' v' => r' = r ∧ i_Rel (k + 5) u' v') (nI P, nI C, xA, nI L, nI q, xS, xK, yD, ed, cl, po, sk, sa, sb, sc, ip, va, ov, oc, jl, pc, sv, bk, be) (nI t) (nI o) v3) (nI t) (nI o) v3 (nI P) (nI C) xA (nI L) xO (nI q) xS xK dA aA po st jm pl op el so ip va ov oc := by
    intro a1 a2
    unfold wX_setPolicy_32 wpX_cell
    rw [dl_m8]
    dsimp only
    rw [c160]
    refine ⟨v160, nm_e (dx_reset ?_)⟩
    unfold wpY_setPolicy
    refine br_f t0 (br_f t20 (dy_isP1 P8 ho' (br_f (by decide) (br_f a1 ?_))))
    rw [sh, dl_m8, c160]
    exact br_t a2 ⟨v160, nm_e (dy_reset ⟨rfl, dl_mkr (dl_Qr Q)⟩)⟩
  unfold wpX_setPolicy
  refine dx_isTarget1 ht (br_f (by decide) (dx_isP1 P8 ho' (br_f (by decide) ?_)))
  rcases dl_cases v3 p31 with z | ⟨z1, z2, z3⟩ | ⟨z1, z2, z3, z4, z5⟩ | ⟨z1, z2, z3, z4, z5⟩
  · exact br_t z (acc (by rw [z]; decide) (by rw [z]; exact m1))
  · refine br_f z3 (dx_isPS0a z2 (br_t rfl ?_))
    unfold wpY_setPolicy
    exact br_f t0 (br_f t20 (dy_isP1 P8 ho' (br_f (by decide) (br_t z1 ⟨rfl, J⟩))))
  · refine br_f z5 (dx_isPS0b P8 z1 z2 (br_t rfl ?_))
    unfold wpY_setPolicy
    refine br_f t0 (br_f t20 (dy_isP1 P8 ho' (br_f (by decide) (br_f z4 ?_))))
    rw [sh]
    exact br_f z3 ⟨rfl, J⟩
  · exact br_f z5 (dx_isPS1 P8 z1 z2 (br_f (by decide) (acc z4 z3)))
theorem i_vc_getPolicy {k : Nat} {u : SX} {v : SY} (I : i_Rel k u v) (hk : k + 5 ≤ 2562) (v1 : Int32) (v2 : Int32) : wpX_getPolicy (fun r => wpY_getPolicy (fun r' => r' = r ∧ i_Rel (k + 5) u v) v v1 v2) u v1 v2 := by
  have J := I
  obtain ⟨xP, xC, xA, xL, xO, xQ, xS, xK, dA, aA, po, st, jm, pl, op, el, so, ip, va, ov, oc⟩ := u
  obtain ⟨yP, yC, yA, yL, yQ, yS, yK, yD, ed, cl, py, sk, sa, sb, sc, yi, yv, yo, yn, jl, pc, sv, bk, be⟩ := v
  obtain ⟨P, C, L, q, rfl, rfl, rfl, rfl, rfl, rfl, rfl, rfl, rfl, rfl, rfl, rfl, rfl, rfl, rfl, rfl, Q⟩ := I
  obtain ⟨⟨P2, P8⟩, ⟨LC, C64⟩, qL, hD, hA, hE, hp, ho, hj⟩ := id Q
  rcases dl_rg v1 (n := 20) (by omega) with b | ⟨t, ht, rfl⟩
  · unfold wpX_getPolicy
    refine dx_isTarget0 b (br_t rfl ?_)
    unfold wpY_getPolicy
    rcases b with b | b
    · exact br_t b ⟨rfl, J⟩
    · exact br_f b.1 (br_t b.2 ⟨rfl, J⟩)
  have t0 : ¬ nI t < 0 := nI_pos (by omega)
  have t20 : ¬ (20 : Int32) ≤ nI t := nI_ge (b := 20) ht (by omega)
  rcases dl_rg v2 (n := P) (by omega) with b | ⟨o, ho', rfl⟩
  · unfold wpX_getPolicy
    refine dx_isTarget1 ht (br_f (by decide) (dx_isP0 b (br_t rfl ?_)))
    unfold wpY_getPolicy
    exact br_f t0 (br_f t20 (dy_isP0 b (br_t rfl ⟨rfl, J⟩)))
  have v160 : vp_in (nI (t * 8 + o)) 160 := vp_in_nI (by omega) (by omega)
  unfold wpX_getPolicy
  refine dx_isTarget1 ht (br_f (by decide) (dx_isP1 P8 ho' (br_f (by decide) ?_)))
  unfold wpX_cell
  rw [dl_m8]
  dsimp only
  refine ⟨v160, ?_⟩
  unfold wpY_getPolicy
  refine br_f t0 (br_f t20 (dy_isP1 P8 ho' (br_f (by decide) ?_)))
  rw [dl_m8]
  exact ⟨v160, rfl, J⟩
theorem i_vc_canRead {k : Nat} {u : SX} {v : SY} (I : i_Rel k u v) (hk : k + 5 ≤ 2562) (v1 : Int32) (v2 : Int32) : wpX_canRead (fun r => wpY_canRead (fun r' v' => r' = r ∧ i_Rel (k + 5) u v') v v1 v2) u v1 v2 := by
  have J := I
  obtain ⟨xP, xC, xA, xL, xO, xQ, xS, xK, dA, aA, po, st, jm, pl, op, el, so, ip, va, ov, oc⟩ := u
  obtain ⟨yP, yC, yA, yL, yQ, yS, yK, yD, ed, cl, py, sk, sa, sb, sc, yi, yv, yo, yn, jl, pc, sv, bk, be⟩ := v
  obtain ⟨P, C, L, q, rfl, rfl, rfl, rfl, rfl, rfl, rfl, rfl, rfl, rfl, rfl, rfl, rfl, rfl, rfl, rfl, Q⟩ := I
  obtain ⟨⟨P2, P8⟩, ⟨LC, C64⟩, qL, hD, hA, hE, hp, ho, hj⟩ := id Q
  rcases dl_rg v1 (n := P) (by omega) with b | ⟨p, hp', rfl⟩
  · unfold wpX_canRead
    refine dx_isP0 b (br_t rfl ?_)
    unfold wpY_canRead
    exact dy_isP0 b (br_t rfl ⟨rfl, J⟩)
  rcases dl_rg v2 (n := 20) (by omega) with b | ⟨t, ht, rfl⟩
  · unfold wpX_canRead
    refine dx_isP1 P8 hp' (br_f (by decide) (dx_isTarget0 b (br_t rfl ?_)))
    unfold wpY_canRead
    rcases b with b | b
    · exact dy_isP1 P8 hp' (br_f (by decide) (br_t b ⟨rfl, J⟩))
    · exact dy_isP1 P8 hp' (br_f (by decide) (br_f b.1 (br_f (Int32.not_lt.mpr b.2) ⟨rfl, J⟩)))
  have t0 : ¬ nI t < 0 := nI_pos (by omega)
  have t20 : nI t < (20 : Int32) := nI_lt (b := 20) ht (by omega)
  have fin : ∀ r : Int32, ((dl_rd P aA po t p → r = 1) ∧ (¬ dl_rd P aA po t p → r = 0)) → wpY_canRead (fun r' v' => r' = r ∧ i_Rel (k + 5) (nI P, nI C, xA, nI L, xO, nI q, xS, xK, dA, aA, po, st, jm, pl, op, el, so, ip, va, ov, oc) v') (nI P, nI C, xA, nI L, nI q, xS, xK, yD, ed, cl, po, sk, sa, sb, sc, ip, va, ov, oc, jl, pc, sv, bk, be) (nI p) (nI t) := by
    intro r hr
    unfold wpY_canRead
    exact dy_isP1 P8 hp' (br_f (by decide) (br_f t0 (br_t t20 (dy_close (by omega) P8 hE (fun C' hC => dy_rd P8 ht hp' hA (dl_CAof hA hC) (fun z => ⟨(hr.1 z).symm, dl_mk Q⟩) (fun z => ⟨(hr.2 z).symm, dl_mk Q⟩))))))
  unfold wpX_canRead
  exact dx_isP1 P8 hp' (br_f (by decide) (dx_isTarget1 ht (br_f (by decide) (dx_rd P8 ht hp' (fun z => fin 1 ⟨fun _ => rfl, fun y => absurd z y⟩) (fun z => fin 0 ⟨fun y => absurd y z, fun _ => rfl⟩)))))
theorem i_vc_setAuthority {k : Nat} {u : SX} {v : SY} (I : i_Rel k u v) (hk : k + 5 ≤ 2562) (v1 : Int32) : wpX_setAuthority (fun r u' => wpY_setAuthority (fun r' v' => r' = r ∧ i_Rel (k + 5) u' v') v v1) u v1 := by
  have J := I
  obtain ⟨xP, xC, xA, xL, xO, xQ, xS, xK, dA, aA, po, st, jm, pl, op, el, so, ip, va, ov, oc⟩ := u
  obtain ⟨yP, yC, yA, yL, yQ, yS, yK, yD, ed, cl, py, sk, sa, sb, sc, yi, yv, yo, yn, jl, pc, sv, bk, be⟩ := v
  obtain ⟨P, C, L, q, rfl, rfl, rfl, rfl, rfl, rfl, rfl, rfl, rfl, rfl, rfl, rfl, rfl, rfl, rfl, rfl, Q⟩ := I
  obtain ⟨⟨P2, P8⟩, ⟨LC, C64⟩, qL, hD, hA, hE, hp, ho, hj⟩ := id Q
  have sh := dl_sh P P8
  have p31 := dl_2P P8
  rcases dl_rg v1 (n := 2 ^ P) p31 with b | ⟨m, hm, rfl⟩
  · unfold wpX_setAuthority
    rcases b with b | b
    · refine dx_isPS0a b (br_t rfl ?_)
      unfold wpY_setAuthority
      exact br_t b ⟨rfl, J⟩
    · refine dx_isPS0b P8 b.1 b.2 (br_t rfl ?_)
      unfold wpY_setAuthority
      refine br_f b.1 ?_
      rw [sh]
      exact br_f (Int32.not_lt.mpr b.2) ⟨rfl, J⟩
  · have m31 : m < 2 ^ 31 := Nat.lt_trans hm p31
    unfold wpX_setAuthority
    refine dx_isPS1 P8 (nI_pos m31) (nI_ge hm p31) (br_f (by decide) (dx_reset ?_))
    unfold wpY_setAuthority
    refine br_f (nI_pos m31) ?_
    rw [sh]
    exact br_t (nI_lt hm p31) (dy_reset ⟨rfl, dl_mkr (dl_Qr Q)⟩)
theorem i_vc_setInput {k : Nat} {u : SX} {v : SY} (I : i_Rel k u v) (hk : k + 5 ≤ 2562) (v1 : Int32) (v2 : Int32) : wpX_setInput (fun r u' => wpY_setInput (fun r' v' => r' = r ∧ i_Rel (k + 5) u' v') v v1 v2) u v1 v2 := by
  have J := I
  obtain ⟨xP, xC, xA, xL, xO, xQ, xS, xK, dA, aA, po, st, jm, pl, op, el, so, ip, va, ov, oc⟩ := u
  obtain ⟨yP, yC, yA, yL, yQ, yS, yK, yD, ed, cl, py, sk, sa, sb, sc, yi, yv, yo, yn, jl, pc, sv, bk, be⟩ := v
  obtain ⟨P, C, L, q, rfl, rfl, rfl, rfl, rfl, rfl, rfl, rfl, rfl, rfl, rfl, rfl, rfl, rfl, rfl, rfl, Q⟩ := I
  obtain ⟨⟨P2, P8⟩, ⟨LC, C64⟩, qL, hD, hA, hE, hp, ho, hj⟩ := id Q
  rcases dl_rg v1 (n := 16) (by omega) with b | ⟨j, hj', rfl⟩
  · unfold wpX_setInput
    refine dx_isVariable0 b (br_t rfl ?_)
    unfold wpY_setInput
    exact dy_isVar0 b (br_t rfl ⟨rfl, J⟩)
  · have vj : vp_in (nI j) 16 := vp_in_nI hj' (by omega)
    unfold wpX_setInput
    refine dx_isVariable1 hj' (br_f (by decide) ⟨vj, nm_e ?_⟩)
    unfold wpY_setInput
    exact dy_isVar1 hj' (br_f (by decide) ⟨vj, nm_e ⟨rfl, dl_mk Q⟩⟩)
theorem i_vc_clearProgram {k : Nat} {u : SX} {v : SY} (I : i_Rel k u v) (hk : k + 5 ≤ 2562) : wpX_clearProgram (fun u' => wpY_clearProgram (fun v' => i_Rel (k + 5) u' v') v) u := by
  have J := I
  obtain ⟨xP, xC, xA, xL, xO, xQ, xS, xK, dA, aA, po, st, jm, pl, op, el, so, ip, va, ov, oc⟩ := u
  obtain ⟨yP, yC, yA, yL, yQ, yS, yK, yD, ed, cl, py, sk, sa, sb, sc, yi, yv, yo, yn, jl, pc, sv, bk, be⟩ := v
  obtain ⟨P, C, L, q, rfl, rfl, rfl, rfl, rfl, rfl, rfl, rfl, rfl, rfl, rfl, rfl, rfl, rfl, rfl, rfl, Q⟩ := I
  obtain ⟨⟨P2, P8⟩, ⟨LC, C64⟩, qL, hD, hA, hE, hp, ho, hj⟩ := id Q
  unfold wpX_clearProgram
  refine dx_reset ?_
  unfold wpY_clearProgram
  exact dy_reset (dl_mkr (L := 0) ⟨⟨P2, P8⟩, ⟨Nat.zero_le _, C64⟩, Nat.zero_le _, hD, hA, hE, fun i hi => absurd hi (by omega), dl_zn4 oc, fun z => absurd rfl z⟩)
theorem i_vc_getStmt {k : Nat} {u : SX} {v : SY} (I : i_Rel k u v) (hk : k + 5 ≤ 2562) (v1 : Int32) (v2 : Int32) : wpX_getStmt (fun r => wpY_getStmt (fun r' => r' = r ∧ i_Rel (k + 5) u v) v v1 v2) u v1 v2 := by
  have J := I
  obtain ⟨xP, xC, xA, xL, xO, xQ, xS, xK, dA, aA, po, st, jm, pl, op, el, so, ip, va, ov, oc⟩ := u
  obtain ⟨yP, yC, yA, yL, yQ, yS, yK, yD, ed, cl, py, sk, sa, sb, sc, yi, yv, yo, yn, jl, pc, sv, bk, be⟩ := v
  obtain ⟨P, C, L, q, rfl, rfl, rfl, rfl, rfl, rfl, rfl, rfl, rfl, rfl, rfl, rfl, rfl, rfl, rfl, rfl, Q⟩ := I
  obtain ⟨⟨P2, P8⟩, ⟨LC, C64⟩, qL, hD, hA, hE, hp, ho, hj⟩ := id Q
  rcases dl_rg v1 (n := L) (by omega) with b | ⟨i, hi, rfl⟩
  · unfold wpX_getStmt
    rcases b with b | b
    · refine br_t b ?_
      unfold wpY_getStmt
      exact br_t b ⟨rfl, J⟩
    · refine br_f b.1 (br_t b.2 ?_)
      unfold wpY_getStmt
      exact br_f b.1 (br_t b.2 ⟨rfl, J⟩)
  have i0 : ¬ nI i < 0 := nI_pos (by omega)
  have iL : ¬ nI L ≤ nI i := nI_ge hi (by omega)
  have vi : vp_in (nI i) 64 := vp_in_nI (by omega) (by omega)
  have ci := dl_c (show i < 2 ^ 31 by omega)
  obtain ⟨p0, p1, p2, p3, _⟩ := hp i hi
  rcases dl_rg v2 (n := 4) (by omega) with b | ⟨f, hf, rfl⟩
  · unfold wpX_getStmt
    rcases b with b | b
    · refine br_f i0 (br_f iL (br_t b ?_))
      unfold wpY_getStmt
      exact br_f i0 (br_f iL (br_t b ⟨rfl, J⟩))
    · have b4 : ¬ v2 < 4 := Int32.not_lt.mpr b.2
      have b3 : ¬ v2 ≤ 3 := by
        have q : nI 4 ≤ v2 := b.2
        rw [Int32.le_iff_toInt_le, nI_toInt (by omega)] at q
        rw [Int32.le_iff_toInt_le]
        have e3 : (3 : Int32).toInt = 3 := by decide
        omega
      refine br_f i0 (br_f iL (br_f b.1 (br_f b4 ?_)))
      unfold wpY_getStmt
      exact br_f i0 (br_f iL (br_f b.1 (br_f b3 ⟨rfl, J⟩)))
  have f4 : nI f < (4 : Int32) := nI_lt (b := 4) hf (by omega)
  have f3 : nI f ≤ (3 : Int32) := nI_le (b := 3) (by omega) (by omega)
  have f0 : ¬ nI f < 0 := nI_pos (by omega)
  unfold wpX_getStmt
  refine br_f i0 (br_f iL (br_f f0 (br_t f4 ?_)))
  rw [dl_m4, nI_add, dl_c (show i * 4 + f < 2 ^ 31 by omega)]
  refine ⟨vp_in_nI (by omega) (by omega), ?_⟩
  unfold wpY_getStmt
  refine br_f i0 (br_f iL (br_f f0 (br_t f3 ?_)))
  rw [ci]
  have ef : f = 0 ∨ f = 1 ∨ f = 2 ∨ f = 3 := by omega
  rcases ef with e | e | e | e <;> subst e
  · exact br_t rfl ⟨vi, p0.symm, J⟩
  · exact br_f (by decide) (br_t rfl ⟨vi, p1.symm, J⟩)
  · exact br_f (by decide) (br_f (by decide) (br_t rfl ⟨vi, p2.symm, J⟩))
  · exact br_f (by decide) (br_f (by decide) (br_f (by decide) ⟨vi, p3.symm, J⟩))
theorem i_vc_check {k : Nat} {u : SX} {v : SY} (I : i_Rel k u v) (hk : k + 5 ≤ 2562) : wpX_check (fun r u' => wpY_check (fun r' v' => r' = r ∧ i_Rel (k + 5) u' v') v) u := by
  have J := I
  obtain ⟨xP, xC, xA, xL, xO, xQ, xS, xK, dA, aA, po, st, jm, pl, op, el, so, ip, va, ov, oc⟩ := u
  obtain ⟨yP, yC, yA, yL, yQ, yS, yK, yD, ed, cl, py, sk, sa, sb, sc, yi, yv, yo, yn, jl, pc, sv, bk, be⟩ := v
  obtain ⟨P, C, L, q, rfl, rfl, rfl, rfl, rfl, rfl, rfl, rfl, rfl, rfl, rfl, rfl, rfl, rfl, rfl, rfl, Q⟩ := I
  obtain ⟨⟨P2, P8⟩, ⟨LC, C64⟩, qL, hD, hA, hE, hp, ho, hj⟩ := id Q
  obtain ⟨r, D', jm', pl', op', el', so', jl', pc', sv', bk', be', hr, hx, hy⟩ := dl_chk (xC := nI C) (xA := xA) (xQ := 0) (xS := 0) (xK := -1) (yC := nI C) (yQ := 0) (yS := 0) (yK := -1) (po := po) (ip := ip) (va := va) (ov := ov) (oc := dl_zn oc 4) (ed := ed) (yi := ip) (yv := va) (yo := ov) (yn := dl_zn oc 4) P8 (show L ≤ 64 by omega) hA hp L 0 0 jm (dl_row (fun _ => -1) pl 8) op el so jl (dl_row (fun _ => -1) pc 8) sv bk be (by omega) (dl_CR0 P8)
  by_cases z : r = 0
  · unfold wpX_check
    refine dx_reset (dx_first ⟨L + 1, hx _ (br_t z ?_)⟩)
    unfold wpY_check
    exact dy_reset (dy_close (by omega) P8 hE (fun C' hC => dy_first ⟨L + 1, hy C' (dl_CAof hA hC) _ (br_t z ⟨rfl, dl_mk (q := 0) (xS := 1) (xK := r) (oc := dl_zn oc 4) ⟨⟨P2, P8⟩, ⟨LC, C64⟩, Nat.zero_le _, hD, hA, hE, hp, dl_zn4 oc, fun _ => hr z⟩⟩)⟩))
  · unfold wpX_check
    refine dx_reset (dx_first ⟨L + 1, hx _ (br_f z ?_)⟩)
    unfold wpY_check
    exact dy_reset (dy_close (by omega) P8 hE (fun C' hC => dy_first ⟨L + 1, hy C' (dl_CAof hA hC) _ (br_f z ⟨rfl, dl_mk (q := 0) (xS := 0) (xK := r) (oc := dl_zn oc 4) ⟨⟨P2, P8⟩, ⟨LC, C64⟩, Nat.zero_le _, hD, hA, hE, hp, dl_zn4 oc, fun y => absurd rfl y⟩⟩)⟩))
theorem dx_load {post : Int32 → SX → Prop} (h : post 1 (xP, xC, xA, xL, xO, 0, 2, xK, dA, aA, po, st, jm, pl, op, el, so, ip, dl_row ip va 16, ov, dl_zn oc 4)) : ∃ n, wX_start_11 post xP xC xA xL xO xQ xS xK n 0 dA aA po st jm pl op el so ip va ov oc := by
  refine loop_0 (fun n i a => wX_start_11 post xP xC xA xL xO xQ xS xK n (nI i) dA aA po st jm pl op el so ip a ov oc) (fun i a => a = dl_row ip va i) 16 va (dl_row_0 _ _).symm ?_ ?_
  · intro n a ha
    subst ha
    exact br_t (nI_le (a := 16) (b := 16) (by omega) (by omega)) (dx_empty h)
  · intro n i a hi ha ih
    subst ha
    refine br_f (nI_ge (b := 16) hi (by omega)) ?_
    rw [dl_c (show i < 2 ^ 31 by omega)]
    exact ⟨vp_in_nI (by omega) (by omega), vp_in_nI (by omega) (by omega), nm_e (nm_r (nI_1 i) (ih _ (dl_row_s rfl)))⟩
theorem dy_s37 {post : Int32 → SY → Prop} (h : post 1 (yP, yC, yA, yL, 0, 2, yK, yD, ed, cl, py, sk, sa, sb, sc, yi, yv, yo, dl_zn yn 4, jl, pc, sv, bk, be)) : ∃ n, wY_start_37 post yP yC yA yL yQ yS yK yD n 0 ed cl py sk sa sb sc yi yv yo yn jl pc sv bk be := by
  refine loop_0 (fun n i a => wY_start_37 post yP yC yA yL yQ yS yK yD n (nI i) ed cl py sk sa sb sc yi yv yo a jl pc sv bk be) (fun i a => a = dl_zn yn i) 4 yn rfl ?_ ?_
  · intro n a ha
    subst ha
    exact br_t (nI_le (a := 4) (b := 4) (by omega) (by omega)) h
  · intro n i a hi ha ih
    subst ha
    refine br_f (nI_ge (b := 4) hi (by omega)) ⟨vp_in_nI hi (by omega), nm_r (e' := dl_zn yn (i + 1)) ?_ (nm_r (nI_1 i) (ih _ rfl))⟩
    rw [dl_c (by omega)]
    rfl
theorem dy_load {post : Int32 → SY → Prop} (h : post 1 (yP, yC, yA, yL, 0, 2, yK, yD, ed, cl, py, sk, sa, sb, sc, yi, dl_row yi yv 16, yo, dl_zn yn 4, jl, pc, sv, bk, be)) : ∃ n, wY_start_11 post yP yC yA yL yQ yS yK yD n 0 ed cl py sk sa sb sc yi yv yo yn jl pc sv bk be := by
  refine loop_0 (fun n i a => wY_start_11 post yP yC yA yL yQ yS yK yD n (nI i) ed cl py sk sa sb sc yi a yo yn jl pc sv bk be) (fun i a => a = dl_row yi yv i) 16 yv (dl_row_0 _ _).symm ?_ ?_
  · intro n a ha
    subst ha
    exact br_t (nI_le (a := 16) (b := 16) (by omega) (by omega)) (dy_s37 h)
  · intro n i a hi ha ih
    subst ha
    refine br_f (nI_ge (b := 16) hi (by omega)) ?_
    rw [dl_c (show i < 2 ^ 31 by omega)]
    exact ⟨vp_in_nI (by omega) (by omega), vp_in_nI (by omega) (by omega), nm_e (nm_r (nI_1 i) (ih _ (dl_row_s rfl)))⟩
theorem i_vc_start {k : Nat} {u : SX} {v : SY} (I : i_Rel k u v) (hk : k + 5 ≤ 2562) : wpX_start (fun r u' => wpY_start (fun r' v' => r' = r ∧ i_Rel (k + 5) u' v') v) u := by
  have J := I
  obtain ⟨xP, xC, xA, xL, xO, xQ, xS, xK, dA, aA, po, st, jm, pl, op, el, so, ip, va, ov, oc⟩ := u
  obtain ⟨yP, yC, yA, yL, yQ, yS, yK, yD, ed, cl, py, sk, sa, sb, sc, yi, yv, yo, yn, jl, pc, sv, bk, be⟩ := v
  obtain ⟨P, C, L, q, rfl, rfl, rfl, rfl, rfl, rfl, rfl, rfl, rfl, rfl, rfl, rfl, rfl, rfl, rfl, rfl, Q⟩ := I
  obtain ⟨⟨P2, P8⟩, ⟨LC, C64⟩, qL, hD, hA, hE, hp, ho, hj⟩ := id Q
  by_cases z : xS = 0
  · unfold wpX_start
    refine br_t z ?_
    unfold wpY_start
    exact br_t z ⟨rfl, J⟩
  · unfold wpX_start
    refine br_f z (dx_load ?_)
    unfold wpY_start
    exact br_f z (dy_load ⟨rfl, dl_mk (q := 0) (xS := 2) (va := dl_row ip va 16) (oc := dl_zn oc 4) ⟨⟨P2, P8⟩, ⟨LC, C64⟩, Nat.zero_le _, hD, hA, hE, hp, dl_zn4 oc, fun _ => hj z⟩⟩)
theorem i_vc_run {k : Nat} {u : SX} {v : SY} (I : i_Rel k u v) (hk : k + 5 ≤ 2562) (v1 : Int32) : wpX_run (fun r u' => wpY_run (fun r' v' => r' = r ∧ i_Rel (k + 5) u' v') v v1) u v1 := by
  have J := I
  obtain ⟨xP, xC, xA, xL, xO, xQ, xS, xK, dA, aA, po, st, jm, pl, op, el, so, ip, va, ov, oc⟩ := u
  obtain ⟨yP, yC, yA, yL, yQ, yS, yK, yD, ed, cl, py, sk, sa, sb, sc, yi, yv, yo, yn, jl, pc, sv, bk, be⟩ := v
  obtain ⟨P, C, L, q, rfl, rfl, rfl, rfl, rfl, rfl, rfl, rfl, rfl, rfl, rfl, rfl, rfl, rfl, rfl, rfl, Q⟩ := I
  obtain ⟨⟨P2, P8⟩, ⟨LC, C64⟩, qL, hD, hA, hE, hp, ho, hj⟩ := id Q
  by_cases z : xS = 2
  · subst z
    have main : ∀ m : Nat, m ≤ 1000 → ∃ r : Int32, ∃ u' : SX, ∃ v' : SY, i_Rel (k + 5) u' v' ∧ (∀ post : Int32 → SX → Prop, post r u' → ∃ n, wX_run_24 post (nI m) n 0 (nI P) (nI C) xA (nI L) xO (nI q) 2 xK dA aA po st jm pl op el so ip va ov oc) ∧ (∀ post : Int32 → SY → Prop, post r v' → ∃ n, wY_run_39 post (nI m) n 0 (nI P) (nI C) xA (nI L) (nI q) 2 xK yD ed cl po sk sa sb sc ip va ov oc jl pc sv bk be) := by
      intro m hm
      obtain ⟨s, q', va', ov', oc', h1, h2, h3, h4, h5⟩ := dl_run (P := P) (C := C) (xA := xA) (xO := xO) (xK := xK) (yD := yD) (dA := dA) (aA := aA) (po := po) (jm := jm) (pl := pl) (op := op) (el := el) (so := so) (ip := ip) (ed := ed) (cl := cl) (jl := jl) (pc := pc) (sv := sv) (bk := bk) (be := be) (show L ≤ 64 by omega) hm hp (hj (by decide)) m 0 q va ov oc (by omega) qL ho
      exact ⟨s, _, _, dl_mk (q := q') (xS := s) (va := va') (ov := ov') (oc := oc') ⟨⟨P2, P8⟩, ⟨LC, C64⟩, h2, hD, hA, hE, hp, h3, fun _ => hj (by decide)⟩, fun post z => ⟨m + 1, h4 post z⟩, fun post z => ⟨m + 1, h5 post z⟩⟩
    by_cases a : 1 ≤ v1
    · by_cases b : v1 ≤ 1000
      · obtain ⟨m, hm, e⟩ := nI_of2 (M := 1000) (n := 1000) (by decide) (fun w => absurd (Int32.le_trans a (Int32.le_of_lt w)) (by decide)) b
        subst e
        obtain ⟨r, u', v', hR, hx, hy⟩ := main m hm
        unfold wpX_run
        refine br_t rfl (br_t a (br_t b (hx _ ?_)))
        unfold wpY_run
        exact br_t a (br_t b (br_t rfl (hy _ ⟨rfl, hR⟩)))
      · obtain ⟨r, u', v', hR, hx, hy⟩ := main 1000 (Nat.le_refl _)
        unfold wpX_run
        refine br_t rfl (br_t a (br_f b (hx _ ?_)))
        unfold wpY_run
        exact br_t a (br_f b (br_t rfl (hy _ ⟨rfl, hR⟩)))
    · obtain ⟨r, u', v', hR, hx, hy⟩ := main 1 (by omega)
      unfold wpX_run
      refine br_t rfl (br_f a (hx _ ?_))
      unfold wpY_run
      exact br_f a (br_t rfl (hy _ ⟨rfl, hR⟩))
  · unfold wpX_run
    refine br_f z ?_
    unfold wpY_run
    exact br_c (fun _ => br_c (fun _ => br_f z ⟨rfl, J⟩) (fun _ => br_f z ⟨rfl, J⟩)) (fun _ => br_f z ⟨rfl, J⟩)
theorem dl_far {x : Int32} (b : x < 0 ∨ (¬ x < 0 ∧ nI 37 ≤ x)) : ((x < 0 ∧ x < 16 ∧ x < 32) ∨ (¬ x < 0 ∧ 16 ≤ x ∧ ¬ x < 16 ∧ 32 ≤ x ∧ ¬ x < 32 ∧ 36 < x)) ∧ ¬ x = 32 ∧ ¬ x = 33 ∧ ¬ x = 34 ∧ ¬ x = 35 ∧ ¬ x = 36 := by
  have t : x.toInt < 0 ∨ 37 ≤ x.toInt := by
    rcases b with b | b
    · rw [Int32.lt_iff_toInt_lt] at b
      exact Or.inl b
    · have q := b.2
      rw [Int32.le_iff_toInt_le, nI_toInt (by omega)] at q
      exact Or.inr q
  have ne : ∀ (y : Int32) (n : Nat), y.toInt = n → 32 ≤ n → n ≤ 36 → ¬ x = y := by
    intro y n e1 e2 e3 e4
    rw [e4, e1] at t
    omega
  refine ⟨?_, ne 32 32 (by decide) (by omega) (by omega), ne 33 33 (by decide) (by omega) (by omega), ne 34 34 (by decide) (by omega) (by omega), ne 35 35 (by decide) (by omega) (by omega), ne 36 36 (by decide) (by omega) (by omega)⟩
  have e0 : (0 : Int32).toInt = 0 := by decide
  have e16 : (16 : Int32).toInt = 16 := by decide
  have e32 : (32 : Int32).toInt = 32 := by decide
  have e36 : (36 : Int32).toInt = 36 := by decide
  simp only [Int32.lt_iff_toInt_lt, Int32.le_iff_toInt_le, e0, e16, e32, e36]
  omega
theorem i_vc_getValue {k : Nat} {u : SX} {v : SY} (I : i_Rel k u v) (hk : k + 5 ≤ 2562) (v1 : Int32) : wpX_getValue (fun r => wpY_getValue (fun r' => r' = r ∧ i_Rel (k + 5) u v) v v1) u v1 := by
  have J := I
  obtain ⟨xP, xC, xA, xL, xO, xQ, xS, xK, dA, aA, po, st, jm, pl, op, el, so, ip, va, ov, oc⟩ := u
  obtain ⟨yP, yC, yA, yL, yQ, yS, yK, yD, ed, cl, py, sk, sa, sb, sc, yi, yv, yo, yn, jl, pc, sv, bk, be⟩ := v
  obtain ⟨P, C, L, q, rfl, rfl, rfl, rfl, rfl, rfl, rfl, rfl, rfl, rfl, rfl, rfl, rfl, rfl, rfl, rfl, Q⟩ := I
  obtain ⟨⟨P2, P8⟩, ⟨LC, C64⟩, qL, hD, hA, hE, hp, ho, hj⟩ := id Q
  rcases dl_rg v1 (n := 37) (by omega) with b | ⟨j, hj', rfl⟩
  · obtain ⟨f, n32, n33, n34, n35, n36⟩ := dl_far b
    have y39 : ∀ r : Int32, r = 0 → wY_getValue_39 (fun r' => r' = r ∧ i_Rel (k + 5) (nI P, nI C, xA, nI L, xO, nI q, xS, xK, dA, aA, po, st, jm, pl, op, el, so, ip, va, ov, oc) (nI P, nI C, xA, nI L, nI q, xS, xK, yD, ed, cl, po, sk, sa, sb, sc, ip, va, ov, oc, jl, pc, sv, bk, be)) v1 (nI P) (nI C) xA (nI L) (nI q) xS xK yD ed cl po sk sa sb sc ip va ov oc jl pc sv bk be := fun r e => br_f n32 (br_f n33 (br_f n34 (br_f n35 (br_f n36 ⟨e.symm, J⟩))))
    rcases f with ⟨f0, f16, f32⟩ | ⟨f0, f16, f16', f32, f32', f36⟩
    · unfold wpX_getValue
      refine dx_isVariable0 (Or.inl f0) (br_t rfl (br_t f16 (br_t f32 ?_)))
      unfold wpY_getValue
      exact br_t f0 (br_t f16 (y39 0 rfl))
    · unfold wpX_getValue
      refine dx_isVariable0 (Or.inr ⟨f0, f16⟩) (br_t rfl (br_f f16' (br_t f32 (br_f f32' (br_t f36 ?_)))))
      unfold wpY_getValue
      exact br_f f0 (br_t f16 (br_f f16' (br_t f32 (y39 0 rfl))))
  have j0 : ¬ nI j < 0 := nI_pos (by omega)
  rcases Nat.lt_or_ge j 16 with h16 | h16
  · have vj : vp_in (nI j) 16 := vp_in_nI h16 (by omega)
    unfold wpX_getValue
    refine dx_isVariable1 h16 (br_f (by decide) ⟨vj, ?_⟩)
    unfold wpY_getValue
    exact br_f j0 (br_f (nI_ge (b := 16) h16 (by omega)) ⟨vj, rfl, J⟩)
  have g16 : (16 : Int32) ≤ nI j := nI_le (a := 16) h16 (by omega)
  have g16' : ¬ nI j < 16 := nI_nlt (b := 16) h16 (by omega)
  rcases Nat.lt_or_ge j 32 with h32 | h32
  · have g32 : ¬ (32 : Int32) ≤ nI j := nI_ge (b := 32) h32 (by omega)
    have v16 : vp_in (nI j - 16) 16 := by
      rw [show nI j - 16 = nI (j - 16) from pk_sub (b := 16) h16]
      exact vp_in_nI (by omega) (by omega)
    unfold wpX_getValue
    refine dx_isVariable0 (Or.inr ⟨j0, g16⟩) (br_t rfl (br_f g16' (br_f g32 ⟨v16, ?_⟩)))
    unfold wpY_getValue
    exact br_f j0 (br_t g16 (br_f g16' (br_f g32 ⟨v16, rfl, J⟩)))
  have g32 : (32 : Int32) ≤ nI j := nI_le (a := 32) h32 (by omega)
  have g32' : ¬ nI j < 32 := nI_nlt (b := 32) h32 (by omega)
  have g36 : ¬ (36 : Int32) < nI j := nI_nlt (a := 36) (by omega) (by omega)
  unfold wpX_getValue
  refine dx_isVariable0 (Or.inr ⟨j0, g16⟩) (br_t rfl (br_f g16' (br_t g32 (br_f g32' (br_f g36 ?_)))))
  have ej : j = 32 ∨ j = 33 ∨ j = 34 ∨ j = 35 ∨ j = 36 := by omega
  rcases ej with e | e | e | e | e <;> subst e
  · refine br_t rfl ?_
    unfold wpY_getValue
    exact br_f j0 (br_t g16 (br_f g16' (br_t g32 (br_t rfl ⟨rfl, J⟩))))
  · refine br_f (by decide) (br_t rfl ?_)
    unfold wpY_getValue
    exact br_f j0 (br_t g16 (br_f g16' (br_t g32 (br_f (by decide) (br_t rfl ⟨rfl, J⟩)))))
  · refine br_f (by decide) (br_f (by decide) (br_t rfl ?_))
    unfold wpY_getValue
    exact br_f j0 (br_t g16 (br_f g16' (br_t g32 (br_f (by decide) (br_f (by decide) (br_t rfl ⟨rfl, J⟩))))))
  · refine br_f (by decide) (br_f (by decide) (br_f (by decide) (br_t rfl ?_)))
    unfold wpY_getValue
    exact br_f j0 (br_t g16 (br_f g16' (br_t g32 (br_f (by decide) (br_f (by decide) (br_f (by decide) (br_t rfl ⟨rfl, J⟩)))))))
  · refine br_f (by decide) (br_f (by decide) (br_f (by decide) (br_f (by decide) (br_t rfl ?_))))
    unfold wpY_getValue
    exact br_f j0 (br_t g16 (br_f g16' (br_t g32 (br_f (by decide) (br_f (by decide) (br_f (by decide) (br_f (by decide) (br_t rfl ⟨rfl, J⟩))))))))
theorem i_vc_outCount {k : Nat} {u : SX} {v : SY} (I : i_Rel k u v) (hk : k + 5 ≤ 2562) (v1 : Int32) : wpX_outCount (fun r => wpY_outCount (fun r' => r' = r ∧ i_Rel (k + 5) u v) v v1) u v1 := by
  have J := I
  obtain ⟨xP, xC, xA, xL, xO, xQ, xS, xK, dA, aA, po, st, jm, pl, op, el, so, ip, va, ov, oc⟩ := u
  obtain ⟨yP, yC, yA, yL, yQ, yS, yK, yD, ed, cl, py, sk, sa, sb, sc, yi, yv, yo, yn, jl, pc, sv, bk, be⟩ := v
  obtain ⟨P, C, L, q, rfl, rfl, rfl, rfl, rfl, rfl, rfl, rfl, rfl, rfl, rfl, rfl, rfl, rfl, rfl, rfl, Q⟩ := I
  obtain ⟨⟨P2, P8⟩, ⟨LC, C64⟩, qL, hD, hA, hE, hp, ho, hj⟩ := id Q
  rcases dl_rg v1 (n := 4) (by omega) with b | ⟨j, hj', rfl⟩
  · unfold wpX_outCount
    refine dx_isChannel0 b (br_t rfl ?_)
    unfold wpY_outCount
    rcases b with b | b
    · exact br_t b ⟨rfl, J⟩
    · exact br_f b.1 (br_f (Int32.not_lt.mpr b.2) ⟨rfl, J⟩)
  · have vj : vp_in (nI j) 4 := vp_in_nI hj' (by omega)
    unfold wpX_outCount
    refine dx_isChannel1 hj' (br_f (by decide) ⟨vj, ?_⟩)
    unfold wpY_outCount
    exact br_f (nI_pos (by omega)) (br_t (nI_lt (b := 4) hj' (by omega)) ⟨vj, rfl, J⟩)
theorem i_vc_outValue {k : Nat} {u : SX} {v : SY} (I : i_Rel k u v) (hk : k + 5 ≤ 2562) (v1 : Int32) (v2 : Int32) : wpX_outValue (fun r => wpY_outValue (fun r' => r' = r ∧ i_Rel (k + 5) u v) v v1 v2) u v1 v2 := by
  have J := I
  obtain ⟨xP, xC, xA, xL, xO, xQ, xS, xK, dA, aA, po, st, jm, pl, op, el, so, ip, va, ov, oc⟩ := u
  obtain ⟨yP, yC, yA, yL, yQ, yS, yK, yD, ed, cl, py, sk, sa, sb, sc, yi, yv, yo, yn, jl, pc, sv, bk, be⟩ := v
  obtain ⟨P, C, L, q, rfl, rfl, rfl, rfl, rfl, rfl, rfl, rfl, rfl, rfl, rfl, rfl, rfl, rfl, rfl, rfl, Q⟩ := I
  obtain ⟨⟨P2, P8⟩, ⟨LC, C64⟩, qL, hD, hA, hE, hp, ho, hj⟩ := id Q
  rcases dl_rg v1 (n := 4) (by omega) with b | ⟨j, hj', rfl⟩
  · unfold wpX_outValue
    refine dx_isChannel0 b (br_t rfl ?_)
    unfold wpY_outValue
    rcases b with b | b
    · exact br_t b ⟨rfl, J⟩
    · exact br_f b.1 (br_t b.2 ⟨rfl, J⟩)
  have vj : vp_in (nI j) 4 := vp_in_nI hj' (by omega)
  have j0 : ¬ nI j < 0 := nI_pos (by omega)
  have j4 : ¬ (4 : Int32) ≤ nI j := nI_ge (b := 4) hj' (by omega)
  have cj := dl_c (show j < 2 ^ 31 by omega)
  obtain ⟨n, hn, en⟩ := ho j hj'
  rcases dl_rg v2 (n := n) (by omega) with b | ⟨i, hi, rfl⟩
  · rcases b with b | b
    · unfold wpX_outValue
      refine dx_isChannel1 hj' (br_f (by decide) (br_t b ?_))
      unfold wpY_outValue
      exact br_f j0 (br_f j4 (br_t b ⟨rfl, J⟩))
    · have nb : ¬ v2 < oc (nI j).toNatClampNeg := by
        rw [cj, en]
        exact Int32.not_lt.mpr b.2
      unfold wpX_outValue
      refine dx_isChannel1 hj' (br_f (by decide) (br_f b.1 ⟨vj, br_f nb ?_⟩))
      unfold wpY_outValue
      exact br_f j0 (br_f j4 (br_f b.1 ⟨vj, br_f nb ⟨rfl, J⟩⟩))
  · have lt : nI i < oc (nI j).toNatClampNeg := by
      rw [cj, en]
      exact nI_lt hi (by omega)
    have v64 : vp_in (nI j * 16 + nI i) 64 := by
      rw [dl_m16]
      exact vp_in_nI (by omega) (by omega)
    have i0 : ¬ nI i < 0 := nI_pos (by omega)
    unfold wpX_outValue
    refine dx_isChannel1 hj' (br_f (by decide) (br_f i0 ⟨vj, br_t lt ⟨v64, ?_⟩⟩))
    unfold wpY_outValue
    exact br_f j0 (br_f j4 (br_f i0 ⟨vj, br_t lt ⟨v64, rfl, J⟩⟩))
/-! the constructors -/
theorem dx_pol {post : SX → Prop} {P : Nat} (P8 : P ≤ 8) (hD : ∀ p, p < P → ∀ a, bt (dA p) a = true → a < P) (h : ∀ A', dl_A P dA A' → post (nI P, xC, xA, xL, xO, 0, 0, -1, dA, A', dl_row (fun _ => -1) po 160, st, jm, pl, op, el, so, ip, va, ov, dl_zn oc 4)) : ∃ n, wX_init_134 post (nI P) xC xA xL xO xQ xS xK n 0 dA aA po st jm pl op el so ip va ov oc := by
  refine loop_0 (fun n i a => wX_init_134 post (nI P) xC xA xL xO xQ xS xK n (nI i) dA aA a st jm pl op el so ip va ov oc) (fun i a => a = dl_row (fun _ => -1) po i) 160 po (dl_row_0 _ _).symm ?_ ?_
  · intro n a ha
    subst ha
    exact br_t (nI_le (a := 160) (b := 160) (by omega) (by omega)) (dx_close P8 hD (fun A' hA => dx_reset (h A' hA)))
  · intro n i a hi ha ih
    subst ha
    refine br_f (nI_ge (b := 160) hi (by omega)) ?_
    rw [dl_c (show i < 2 ^ 31 by omega)]
    exact ⟨vp_in_nI (by omega) (by omega), nm_e (nm_r (nI_1 i) (ih _ (dl_row_s rfl)))⟩
theorem dy_pol {post : SY → Prop} (h : post (yP, yC, yA, yL, yQ, 0, -1, yD, ed, cl, dl_row (fun _ => -1) py 160, sk, sa, sb, sc, yi, yv, yo, yn, jl, pc, sv, bk, be)) : ∃ n, wY_init_186 post yP yC yA yL yQ yS yK yD n 0 ed cl py sk sa sb sc yi yv yo yn jl pc sv bk be := by
  refine loop_0 (fun n i a => wY_init_186 post yP yC yA yL yQ yS yK yD n (nI i) ed cl a sk sa sb sc yi yv yo yn jl pc sv bk be) (fun i a => a = dl_row (fun _ => -1) py i) 160 py (dl_row_0 _ _).symm ?_ ?_
  · intro n a ha
    subst ha
    exact br_t (nI_le (a := 160) (b := 160) (by omega) (by omega)) h
  · intro n i a hi ha ih
    subst ha
    refine br_f (nI_ge (b := 160) hi (by omega)) ?_
    rw [dl_c (show i < 2 ^ 31 by omega)]
    exact ⟨vp_in_nI (by omega) (by omega), nm_e (nm_r (nI_1 i) (ih _ (dl_row_s rfl)))⟩
theorem dl_zz : dl_zn (fun _ => 0) 4 = (fun _ => 0) := by
  funext x
  unfold dl_zn dl_zn dl_zn dl_zn dl_zn upd
  split
  · rfl
  · split
    · rfl
    · split
      · rfl
      · split <;> rfl
/-- an argument, clamped: what both sides come to -/
theorem dl_clamp (x : Int32) (lo hi : Nat) (hl : lo ≤ hi) (hh : hi < 2 ^ 31) : ∃ n, lo ≤ n ∧ n ≤ hi ∧ ((¬ nI lo ≤ x ∧ n = lo) ∨ (nI lo ≤ x ∧ ¬ x ≤ nI hi ∧ n = hi) ∨ (nI lo ≤ x ∧ x ≤ nI hi ∧ x = nI n)) := by
  by_cases a : nI lo ≤ x
  · by_cases b : x ≤ nI hi
    · have h0 : ¬ x < 0 := fun z => absurd (Int32.lt_of_le_of_lt a z) (nI_pos (by omega))
      obtain ⟨n, hn, e⟩ := nI_of h0
      subst e
      exact ⟨n, (nI_leI (by omega) hn).mp a, (nI_leI hn hh).mp b, Or.inr (Or.inr ⟨a, b, rfl⟩)⟩
    · exact ⟨hi, hl, Nat.le_refl _, Or.inr (Or.inl ⟨a, b, rfl⟩)⟩
  · exact ⟨lo, Nat.le_refl _, hl, Or.inl ⟨a, rfl⟩⟩
theorem dx_clamp {post : Int32 → Prop} {x : Int32} {lo hi n : Nat} (c : (¬ nI lo ≤ x ∧ n = lo) ∨ (nI lo ≤ x ∧ ¬ x ≤ nI hi ∧ n = hi) ∨ (nI lo ≤ x ∧ x ≤ nI hi ∧ x = nI n)) (h : post (nI n)) : wpX_clamp post x (nI lo) (nI hi) := by
  unfold wpX_clamp
  rcases c with ⟨a, e⟩ | ⟨a, b, e⟩ | ⟨a, b, e⟩
  · subst e
    exact br_f a h
  · subst e
    exact br_t a (br_f b h)
  · rw [← e] at h
    exact br_t a (br_t b h)
theorem dy_154 {post : SY → Prop} {z0 x : Int32} {n : Nat} (c : (¬ nI 8 ≤ x ∧ n = 8) ∨ (nI 8 ≤ x ∧ ¬ x ≤ nI 64 ∧ n = 64) ∨ (nI 8 ≤ x ∧ x ≤ nI 64 ∧ x = nI n)) (h : ∃ m, wY_init_186 post z0 (nI n) yA yL yQ yS yK yD m 0 ed cl py sk sa sb sc yi yv yo yn jl pc sv bk be) : wY_init_154 post x z0 yP yC yA yL yQ yS yK yD ed cl py sk sa sb sc yi yv yo yn jl pc sv bk be := by
  unfold wY_init_154
  rcases c with ⟨a, e⟩ | ⟨a, b, e⟩ | ⟨a, b, e⟩
  · subst e
    exact br_f a h
  · subst e
    exact br_t a (br_f b h)
  · rw [← e] at h
    exact br_t a (br_t b h)
theorem i_vc0 (k0 : Int32) (k1 : Int32) : wpX_init (fun u => wpY_init (fun v => i_Rel 2 u v) k0 k1) k0 k1 := by
  obtain ⟨P, P2, P8, cP⟩ := dl_clamp k0 2 8 (by omega) (by omega)
  obtain ⟨C, C8, C64, cC⟩ := dl_clamp k1 8 64 (by omega) (by omega)
  unfold wpX_init
  refine dx_clamp (lo := 2) (hi := 8) cP (dx_clamp (lo := 8) (hi := 64) cC (dx_pol P8 (fun p hp a ha => ?_) (fun A' hA => ?_)))
  · rw [b_0] at ha
    exact absurd ha (by decide)
  have fin : ∀ z0 : Int32, z0 = nI P → wY_init_154 (fun v => i_Rel 2 (nI P, nI C, 0, 0, 0, 0, 0, -1, fun _ => 0, A', dl_row (fun _ => -1) (fun _ => 0) 160, fun _ => 0, fun _ => 0, fun _ => 0, fun _ => 0, fun _ => 0, fun _ => 0, fun _ => 0, fun _ => 0, fun _ => 0, dl_zn (fun _ => 0) 4) v) k1 z0 0 0 0 0 0 0 0 0 (fun _ => 0) (fun _ => 0) (fun _ => 0) (fun _ => 0) (fun _ => 0) (fun _ => 0) (fun _ => 0) (fun _ => 0) (fun _ => 0) (fun _ => 0) (fun _ => 0) (fun _ => 0) (fun _ => 0) (fun _ => 0) (fun _ => 0) (fun _ => 0) := by
    intro z0 hz
    subst hz
    rw [dl_zz]
    refine dy_154 cC (dy_pol ?_)
    refine dl_mk (P := P) (C := C) (L := 0) (q := 0) (xS := 0) ⟨⟨P2, P8⟩, ⟨Nat.zero_le _, C64⟩, Nat.zero_le _, fun p hp a ha => ?_, hA, fun i j hi hj => ?_, fun i hi => absurd hi (by omega), fun c hc => ⟨0, by omega, rfl⟩, fun z => absurd rfl z⟩
    · rw [b_0] at ha
      exact absurd ha (by decide)
    · unfold dl_E
      rw [b_0]
      exact ⟨fun z => absurd rfl z, fun z => absurd z (by decide)⟩
  unfold wpY_init
  rcases cP with ⟨a, e⟩ | ⟨a, b, e⟩ | ⟨a, b, e⟩
  · exact br_f a (fin 2 (by rw [e]; rfl))
  · exact br_t a (br_f b (fin 8 (by rw [e]; rfl)))
  · exact br_t a (br_t b (fin k0 e))
end
end
section
/-! addStmt -/
section
variable {xP xC xA xL xO xQ xS xK yP yC yA yL yQ yS yK yD : Int32} {dA aA po st jm pl op el so ip va ov oc ed cl py sk sa sb sc yi yv yo yn jl pc sv bk be : Nat → Int32}
def dl_w (st : Nat → Int32) (L : Nat) (k a b c : Int32) : Nat → Int32 := upd (upd (upd (upd st (L * 4) k) (L * 4 + 1) a) (L * 4 + 2) b) (L * 4 + 3) c
theorem dl_Pw {L : Nat} {k a b c : Int32} (h : dl_P L st sk sa sb sc) (ok : dl_ok k a b c) : dl_P (L + 1) (dl_w st L k a b c) (upd sk L k) (upd sa L a) (upd sb L b) (upd sc L c) := by
  intro i hi
  unfold dl_w
  by_cases e : i = L
  · subst e
    rw [pk_us (f := sk), pk_us (f := sa), pk_us (f := sb), pk_us (f := sc)]
    refine ⟨?_, ?_, ?_, ?_, ok⟩
    · rw [pk_un (by omega), pk_un (by omega), pk_un (by omega), pk_us]
    · rw [pk_un (by omega), pk_un (by omega), pk_us]
    · rw [pk_un (by omega), pk_us]
    · rw [pk_us]
  · rw [pk_un (f := sk) e, pk_un (f := sa) e, pk_un (f := sb) e, pk_un (f := sc) e]
    obtain ⟨p0, p1, p2, p3, p4⟩ := h i (by omega)
    refine ⟨?_, ?_, ?_, ?_, p4⟩
    · rw [pk_un (by omega), pk_un (by omega), pk_un (by omega), pk_un (by omega), p0]
    · rw [pk_un (by omega), pk_un (by omega), pk_un (by omega), pk_un (by omega), p1]
    · rw [pk_un (by omega), pk_un (by omega), pk_un (by omega), pk_un (by omega), p2]
    · rw [pk_un (by omega), pk_un (by omega), pk_un (by omega), pk_un (by omega), p3]
theorem dx_add0 {post : Int32 → SX → Prop} {L : Nat} {k a b c : Int32} (hL : L < 64) (h : post (nI L) (xP, xC, xA, nI (L + 1), xO, 0, 0, -1, dA, aA, po, dl_w st L k 0 0 0, jm, pl, op, el, so, ip, va, ov, dl_zn oc 4)) : ∀ x6 : Int32, x6 = nI L * 4 → (vp_in x6 256 ∧ ∀ s7 : Nat → Int32, s7 = upd st x6.toNatClampNeg k → (((0 : Int32) < 1 → wX_addStmt_65 post b c 0 x6 0 (x6 + 1) xP xC xA (nI L) xO xQ xS xK dA aA po s7 jm pl op el so ip va ov oc) ∧ (¬ (0 : Int32) < 1 → wX_addStmt_65 post b c 0 x6 a (x6 + 1) xP xC xA (nI L) xO xQ xS xK dA aA po s7 jm pl op el so ip va ov oc))) := by
  obtain ⟨v0, c0⟩ := dl_s0 hL
  obtain ⟨v1, c1⟩ := dl_s1 hL
  obtain ⟨v2, c2⟩ := dl_s2 hL
  obtain ⟨v3, c3⟩ := dl_s3 hL
  refine nm_r (dl_m4 L) ⟨v0, nm_r (e' := upd st (L * 4) k) (by rw [c0]) (br_t (by decide) ?_)⟩
  unfold wX_addStmt_65
  refine ⟨v1, nm_r (e' := upd (upd st (L * 4) k) (L * 4 + 1) 0) (by rw [c1]) (br_t (by decide) ?_)⟩
  unfold wX_addStmt_85
  refine ⟨v2, nm_r (e' := upd (upd (upd st (L * 4) k) (L * 4 + 1) 0) (L * 4 + 2) 0) (by rw [c2]) (br_t (by decide) ?_)⟩
  unfold wX_addStmt_106
  refine ⟨v3, nm_r (e' := dl_w st L k 0 0 0) (by rw [c3]; rfl) (nm_r (nI_1 L) (dx_reset ?_))⟩
  show post (nI (L + 1) - 1) _
  rw [nI_pred]
  exact h
theorem dx_add1 {post : Int32 → SX → Prop} {L : Nat} {k a b c : Int32} (hL : L < 64) (h : post (nI L) (xP, xC, xA, nI (L + 1), xO, 0, 0, -1, dA, aA, po, dl_w st L k a 0 0, jm, pl, op, el, so, ip, va, ov, dl_zn oc 4)) : ∀ x6 : Int32, x6 = nI L * 4 → (vp_in x6 256 ∧ ∀ s7 : Nat → Int32, s7 = upd st x6.toNatClampNeg k → (((1 : Int32) < 1 → wX_addStmt_65 post b c 1 x6 0 (x6 + 1) xP xC xA (nI L) xO xQ xS xK dA aA po s7 jm pl op el so ip va ov oc) ∧ (¬ (1 : Int32) < 1 → wX_addStmt_65 post b c 1 x6 a (x6 + 1) xP xC xA (nI L) xO xQ xS xK dA aA po s7 jm pl op el so ip va ov oc))) := by
  obtain ⟨v0, c0⟩ := dl_s0 hL
  obtain ⟨v1, c1⟩ := dl_s1 hL
  obtain ⟨v2, c2⟩ := dl_s2 hL
  obtain ⟨v3, c3⟩ := dl_s3 hL
  refine nm_r (dl_m4 L) ⟨v0, nm_r (e' := upd st (L * 4) k) (by rw [c0]) (br_f (by decide) ?_)⟩
  unfold wX_addStmt_65
  refine ⟨v1, nm_r (e' := upd (upd st (L * 4) k) (L * 4 + 1) a) (by rw [c1]) (br_t (by decide) ?_)⟩
  unfold wX_addStmt_85
  refine ⟨v2, nm_r (e' := upd (upd (upd st (L * 4) k) (L * 4 + 1) a) (L * 4 + 2) 0) (by rw [c2]) (br_t (by decide) ?_)⟩
  unfold wX_addStmt_106
  refine ⟨v3, nm_r (e' := dl_w st L k a 0 0) (by rw [c3]; rfl) (nm_r (nI_1 L) (dx_reset ?_))⟩
  show post (nI (L + 1) - 1) _
  rw [nI_pred]
  exact h
theorem dx_add2 {post : Int32 → SX → Prop} {L : Nat} {k a b c : Int32} (hL : L < 64) (h : post (nI L) (xP, xC, xA, nI (L + 1), xO, 0, 0, -1, dA, aA, po, dl_w st L k a b 0, jm, pl, op, el, so, ip, va, ov, dl_zn oc 4)) : ∀ x6 : Int32, x6 = nI L * 4 → (vp_in x6 256 ∧ ∀ s7 : Nat → Int32, s7 = upd st x6.toNatClampNeg k → (((2 : Int32) < 1 → wX_addStmt_65 post b c 2 x6 0 (x6 + 1) xP xC xA (nI L) xO xQ xS xK dA aA po s7 jm pl op el so ip va ov oc) ∧ (¬ (2 : Int32) < 1 → wX_addStmt_65 post b c 2 x6 a (x6 + 1) xP xC xA (nI L) xO xQ xS xK dA aA po s7 jm pl op el so ip va ov oc))) := by
  obtain ⟨v0, c0⟩ := dl_s0 hL
  obtain ⟨v1, c1⟩ := dl_s1 hL
  obtain ⟨v2, c2⟩ := dl_s2 hL
  obtain ⟨v3, c3⟩ := dl_s3 hL
  refine nm_r (dl_m4 L) ⟨v0, nm_r (e' := upd st (L * 4) k) (by rw [c0]) (br_f (by decide) ?_)⟩
  unfold wX_addStmt_65
  refine ⟨v1, nm_r (e' := upd (upd st (L * 4) k) (L * 4 + 1) a) (by rw [c1]) (br_f (by decide) ?_)⟩
  unfold wX_addStmt_85
  refine ⟨v2, nm_r (e' := upd (upd (upd st (L * 4) k) (L * 4 + 1) a) (L * 4 + 2) b) (by rw [c2]) (br_t (by decide) ?_)⟩
  unfold wX_addStmt_106
  refine ⟨v3, nm_r (e' := dl_w st L k a b 0) (by rw [c3]; rfl) (nm_r (nI_1 L) (dx_reset ?_))⟩
  show post (nI (L + 1) - 1) _
  rw [nI_pred]
  exact h
theorem dx_add3 {post : Int32 → SX → Prop} {L : Nat} {k a b c : Int32} (hL : L < 64) (h : post (nI L) (xP, xC, xA, nI (L + 1), xO, 0, 0, -1, dA, aA, po, dl_w st L k a b c, jm, pl, op, el, so, ip, va, ov, dl_zn oc 4)) : ∀ x6 : Int32, x6 = nI L * 4 → (vp_in x6 256 ∧ ∀ s7 : Nat → Int32, s7 = upd st x6.toNatClampNeg k → (((3 : Int32) < 1 → wX_addStmt_65 post b c 3 x6 0 (x6 + 1) xP xC xA (nI L) xO xQ xS xK dA aA po s7 jm pl op el so ip va ov oc) ∧ (¬ (3 : Int32) < 1 → wX_addStmt_65 post b c 3 x6 a (x6 + 1) xP xC xA (nI L) xO xQ xS xK dA aA po s7 jm pl op el so ip va ov oc))) := by
  obtain ⟨v0, c0⟩ := dl_s0 hL
  obtain ⟨v1, c1⟩ := dl_s1 hL
  obtain ⟨v2, c2⟩ := dl_s2 hL
  obtain ⟨v3, c3⟩ := dl_s3 hL
  refine nm_r (dl_m4 L) ⟨v0, nm_r (e' := upd st (L * 4) k) (by rw [c0]) (br_f (by decide) ?_)⟩
  unfold wX_addStmt_65
  refine ⟨v1, nm_r (e' := upd (upd st (L * 4) k) (L * 4 + 1) a) (by rw [c1]) (br_f (by decide) ?_)⟩
  unfold wX_addStmt_85
  refine ⟨v2, nm_r (e' := upd (upd (upd st (L * 4) k) (L * 4 + 1) a) (L * 4 + 2) b) (by rw [c2]) (br_f (by decide) ?_)⟩
  unfold wX_addStmt_106
  refine ⟨v3, nm_r (e' := dl_w st L k a b c) (by rw [c3]; rfl) (nm_r (nI_1 L) (dx_reset ?_))⟩
  show post (nI (L + 1) - 1) _
  rw [nI_pred]
  exact h
theorem dy_add {post : Int32 → SY → Prop} {L : Nat} {k a b c : Int32} (hL : L < 64) (h : post (nI L) (yP, yC, yA, nI (L + 1), 0, 0, -1, yD, ed, cl, py, upd sk L k, upd sa L a, upd sb L b, upd sc L c, yi, yv, yo, dl_zn yn 4, jl, pc, sv, bk, be)) : wY_addStmt_205 post k a b c yP yC yA (nI L) yQ yS yK yD ed cl py sk sa sb sc yi yv yo yn jl pc sv bk be := by
  have v : vp_in (nI L) 64 := vp_in_nI hL (by omega)
  have cL := dl_c (show L < 2 ^ 31 by omega)
  unfold wY_addStmt_205
  refine ⟨v, nm_r (e' := upd sk L k) (by rw [cL]) ⟨v, nm_r (e' := upd sa L a) (by rw [cL]) ⟨v, nm_r (e' := upd sb L b) (by rw [cL]) ⟨v, nm_r (e' := upd sc L c) (by rw [cL]) (nm_r (nI_1 L) (dy_reset ?_))⟩⟩⟩⟩
  show post (nI (L + 1) - 1) _
  rw [nI_pred]
  exact h
theorem dl_a1 {kk P C L q : Nat} {a b c : Int32} (Q : dl_Q P C L q xS dA aA st jm oc ed sk sa sb sc) (hLC : L < C) : wpX_addStmt (fun r u' => wpY_addStmt (fun r' v' => r' = r ∧ i_Rel kk u' v') (nI P, nI C, xA, nI L, nI q, xS, xK, yD, ed, cl, po, sk, sa, sb, sc, ip, va, ov, oc, jl, pc, sv, bk, be) 1 a b c) (nI P, nI C, xA, nI L, xO, nI q, xS, xK, dA, aA, po, st, jm, pl, op, el, so, ip, va, ov, oc) 1 a b c := by
  obtain ⟨⟨P2, P8⟩, ⟨LC, C64⟩, qL, hD, hA, hE, hp, ho, hj⟩ := id Q
  have L64 : L < 64 := by omega
  have nf : ¬ nI C ≤ nI L := nI_ge hLC (by omega)
  have lt : nI L < nI C := nI_lt hLC (by omega)
  have J : i_Rel kk (nI P, nI C, xA, nI L, xO, nI q, xS, xK, dA, aA, po, st, jm, pl, op, el, so, ip, va, ov, oc) (nI P, nI C, xA, nI L, nI q, xS, xK, yD, ed, cl, po, sk, sa, sb, sc, ip, va, ov, oc, jl, pc, sv, bk, be) := dl_mk Q
  rcases dl_rg a (n := 16) (by omega) with ba | ⟨t, ht, rfl⟩
  · skip
    unfold wpX_addStmt
    refine br_f nf ?_
    unfold wpX_operandsFit
    refine br_f (by decide) (br_f (by decide) (br_t rfl (dx_isVariable0 ba ⟨rfl, br_t rfl ?_⟩)))
    unfold wpY_addStmt
    exact br_f (by decide) (br_f (by decide) (br_t lt (br_t rfl (dy_isVar0 ba (br_t rfl ⟨rfl, J⟩)))))
  · skip
    unfold wpX_addStmt
    refine br_f nf ?_
    unfold wpX_operandsFit
    refine br_f (by decide) (br_f (by decide) (br_t rfl (dx_isVariable1 ht ⟨rfl, br_f (by decide) (?_)⟩)))
    unfold wpX_operandCount
    refine br_f (by decide) (br_f (by decide) (br_t rfl (dx_add2 L64 ?_)))
    unfold wpY_addStmt
    exact br_f (by decide) (br_f (by decide) (br_t lt (br_t rfl (dy_isVar1 ht (br_f (by decide) (dy_add L64 ⟨rfl, dl_mkr (L := L + 1) ⟨⟨P2, P8⟩, ⟨by omega, C64⟩, Nat.zero_le _, hD, hA, hE, dl_Pw hp (Or.inl ⟨rfl, ⟨t, ht, rfl⟩⟩), dl_zn4 oc, fun z => absurd rfl z⟩⟩))))))
theorem dl_a2 {kk P C L q : Nat} {a b c : Int32} (Q : dl_Q P C L q xS dA aA st jm oc ed sk sa sb sc) (hLC : L < C) : wpX_addStmt (fun r u' => wpY_addStmt (fun r' v' => r' = r ∧ i_Rel kk u' v') (nI P, nI C, xA, nI L, nI q, xS, xK, yD, ed, cl, po, sk, sa, sb, sc, ip, va, ov, oc, jl, pc, sv, bk, be) 2 a b c) (nI P, nI C, xA, nI L, xO, nI q, xS, xK, dA, aA, po, st, jm, pl, op, el, so, ip, va, ov, oc) 2 a b c := by
  obtain ⟨⟨P2, P8⟩, ⟨LC, C64⟩, qL, hD, hA, hE, hp, ho, hj⟩ := id Q
  have L64 : L < 64 := by omega
  have nf : ¬ nI C ≤ nI L := nI_ge hLC (by omega)
  have lt : nI L < nI C := nI_lt hLC (by omega)
  have J : i_Rel kk (nI P, nI C, xA, nI L, xO, nI q, xS, xK, dA, aA, po, st, jm, pl, op, el, so, ip, va, ov, oc) (nI P, nI C, xA, nI L, nI q, xS, xK, yD, ed, cl, po, sk, sa, sb, sc, ip, va, ov, oc, jl, pc, sv, bk, be) := dl_mk Q
  rcases dl_rg a (n := 16) (by omega) with ba | ⟨t, ht, rfl⟩
  · skip
    unfold wpX_addStmt
    refine br_f nf ?_
    unfold wpX_operandsFit
    refine br_f (by decide) (br_f (by decide) (br_f (by decide) (br_t rfl (dx_isVariable0 ba (br_t rfl (br_t rfl ?_))))))
    unfold wpY_addStmt
    exact br_f (by decide) (br_f (by decide) (br_t lt (br_f (by decide) (br_t rfl (dy_isVar0 ba (br_t rfl ⟨rfl, J⟩))))))
  rcases dl_rg b (n := 16) (by omega) with bb | ⟨s, hs, rfl⟩
  · skip
    unfold wpX_addStmt
    refine br_f nf ?_
    unfold wpX_operandsFit
    refine br_f (by decide) (br_f (by decide) (br_f (by decide) (br_t rfl (dx_isVariable1 ht (br_f (by decide) (dx_isVariable0 bb (br_t rfl (br_t rfl ?_))))))))
    unfold wpY_addStmt
    exact br_f (by decide) (br_f (by decide) (br_t lt (br_f (by decide) (br_t rfl (dy_isVar1 ht (br_f (by decide) (dy_isVar0 bb (br_t rfl ⟨rfl, J⟩))))))))
  unfold wpX_addStmt
  refine br_f nf ?_
  unfold wpX_operandsFit
  refine br_f (by decide) (br_f (by decide) (br_f (by decide) (br_t rfl (dx_isVariable1 ht (br_f (by decide) (dx_isVariable1 hs (br_f (by decide) (br_f (by decide) (?_)))))))))
  unfold wpX_operandCount
  refine br_f (by decide) (br_f (by decide) (br_f (by decide) (br_t rfl (dx_add2 L64 ?_))))
  unfold wpY_addStmt
  exact br_f (by decide) (br_f (by decide) (br_t lt (br_f (by decide) (br_t rfl (dy_isVar1 ht (br_f (by decide) (dy_isVar1 hs (br_f (by decide) (dy_add L64 ⟨rfl, dl_mkr (L := L + 1) ⟨⟨P2, P8⟩, ⟨by omega, C64⟩, Nat.zero_le _, hD, hA, hE, dl_Pw hp (Or.inr (Or.inl ⟨rfl, ⟨t, ht, rfl⟩, ⟨s, hs, rfl⟩⟩)), dl_zn4 oc, fun z => absurd rfl z⟩⟩)))))))))
theorem dl_a3 {kk P C L q : Nat} {a b c : Int32} (Q : dl_Q P C L q xS dA aA st jm oc ed sk sa sb sc) (hLC : L < C) : wpX_addStmt (fun r u' => wpY_addStmt (fun r' v' => r' = r ∧ i_Rel kk u' v') (nI P, nI C, xA, nI L, nI q, xS, xK, yD, ed, cl, po, sk, sa, sb, sc, ip, va, ov, oc, jl, pc, sv, bk, be) 3 a b c) (nI P, nI C, xA, nI L, xO, nI q, xS, xK, dA, aA, po, st, jm, pl, op, el, so, ip, va, ov, oc) 3 a b c := by
  obtain ⟨⟨P2, P8⟩, ⟨LC, C64⟩, qL, hD, hA, hE, hp, ho, hj⟩ := id Q
  have L64 : L < 64 := by omega
  have nf : ¬ nI C ≤ nI L := nI_ge hLC (by omega)
  have lt : nI L < nI C := nI_lt hLC (by omega)
  have J : i_Rel kk (nI P, nI C, xA, nI L, xO, nI q, xS, xK, dA, aA, po, st, jm, pl, op, el, so, ip, va, ov, oc) (nI P, nI C, xA, nI L, nI q, xS, xK, yD, ed, cl, po, sk, sa, sb, sc, ip, va, ov, oc, jl, pc, sv, bk, be) := dl_mk Q
  rcases dl_rg a (n := 16) (by omega) with ba | ⟨t, ht, rfl⟩
  · skip
    unfold wpX_addStmt
    refine br_f nf ?_
    unfold wpX_operandsFit
    refine br_f (by decide) (br_f (by decide) (br_f (by decide) (br_f (by decide) (br_t rfl (dx_isVariable0 ba (br_t rfl (br_t rfl ?_)))))))
    unfold wpY_addStmt
    exact br_f (by decide) (br_f (by decide) (br_t lt (br_f (by decide) (br_f (by decide) (br_f (by decide) (br_f (by decide) (br_f (by decide) (dy_isVar0 ba (br_t rfl ⟨rfl, J⟩)))))))))
  rcases dl_rg b (n := 16) (by omega) with bb | ⟨s, hs, rfl⟩
  · skip
    unfold wpX_addStmt
    refine br_f nf ?_
    unfold wpX_operandsFit
    refine br_f (by decide) (br_f (by decide) (br_f (by decide) (br_f (by decide) (br_t rfl (dx_isVariable1 ht (br_f (by decide) (dx_isVariable0 bb (br_t rfl (br_t rfl ?_)))))))))
    unfold wpY_addStmt
    exact br_f (by decide) (br_f (by decide) (br_t lt (br_f (by decide) (br_f (by decide) (br_f (by decide) (br_f (by decide) (br_f (by decide) (dy_isVar1 ht (br_f (by decide) (dy_isVar0 bb (br_t rfl ⟨rfl, J⟩)))))))))))
  rcases dl_rg c (n := 16) (by omega) with bc | ⟨m, hm, rfl⟩
  · skip
    unfold wpX_addStmt
    refine br_f nf ?_
    unfold wpX_operandsFit
    refine br_f (by decide) (br_f (by decide) (br_f (by decide) (br_f (by decide) (br_t rfl (dx_isVariable1 ht (br_f (by decide) (dx_isVariable1 hs (br_f (by decide) (dx_isVariable0 bc (br_t rfl (br_t rfl ?_)))))))))))
    unfold wpY_addStmt
    exact br_f (by decide) (br_f (by decide) (br_t lt (br_f (by decide) (br_f (by decide) (br_f (by decide) (br_f (by decide) (br_f (by decide) (dy_isVar1 ht (br_f (by decide) (dy_isVar1 hs (br_f (by decide) (dy_isVar0 bc (br_t rfl ⟨rfl, J⟩)))))))))))))
  unfold wpX_addStmt
  refine br_f nf ?_
  unfold wpX_operandsFit
  refine br_f (by decide) (br_f (by decide) (br_f (by decide) (br_f (by decide) (br_t rfl (dx_isVariable1 ht (br_f (by decide) (dx_isVariable1 hs (br_f (by decide) (dx_isVariable1 hm (br_f (by decide) (br_f (by decide) (?_))))))))))))
  unfold wpX_operandCount
  refine br_f (by decide) (br_f (by decide) (br_f (by decide) (br_f (by decide) (br_t rfl (dx_add3 L64 ?_)))))
  unfold wpY_addStmt
  exact br_f (by decide) (br_f (by decide) (br_t lt (br_f (by decide) (br_f (by decide) (br_f (by decide) (br_f (by decide) (br_f (by decide) (dy_isVar1 ht (br_f (by decide) (dy_isVar1 hs (br_f (by decide) (dy_isVar1 hm (br_f (by decide) (dy_add L64 ⟨rfl, dl_mkr (L := L + 1) ⟨⟨P2, P8⟩, ⟨by omega, C64⟩, Nat.zero_le _, hD, hA, hE, dl_Pw hp (Or.inr (Or.inr (Or.inr (Or.inl ⟨Or.inl rfl, ⟨t, ht, rfl⟩, ⟨s, hs, rfl⟩, ⟨m, hm, rfl⟩⟩)))), dl_zn4 oc, fun z => absurd rfl z⟩⟩))))))))))))))
theorem dl_a4 {kk P C L q : Nat} {a b c : Int32} (Q : dl_Q P C L q xS dA aA st jm oc ed sk sa sb sc) (hLC : L < C) : wpX_addStmt (fun r u' => wpY_addStmt (fun r' v' => r' = r ∧ i_Rel kk u' v') (nI P, nI C, xA, nI L, nI q, xS, xK, yD, ed, cl, po, sk, sa, sb, sc, ip, va, ov, oc, jl, pc, sv, bk, be) 4 a b c) (nI P, nI C, xA, nI L, xO, nI q, xS, xK, dA, aA, po, st, jm, pl, op, el, so, ip, va, ov, oc) 4 a b c := by
  obtain ⟨⟨P2, P8⟩, ⟨LC, C64⟩, qL, hD, hA, hE, hp, ho, hj⟩ := id Q
  have L64 : L < 64 := by omega
  have nf : ¬ nI C ≤ nI L := nI_ge hLC (by omega)
  have lt : nI L < nI C := nI_lt hLC (by omega)
  have J : i_Rel kk (nI P, nI C, xA, nI L, xO, nI q, xS, xK, dA, aA, po, st, jm, pl, op, el, so, ip, va, ov, oc) (nI P, nI C, xA, nI L, nI q, xS, xK, yD, ed, cl, po, sk, sa, sb, sc, ip, va, ov, oc, jl, pc, sv, bk, be) := dl_mk Q
  rcases dl_rg a (n := 16) (by omega) with ba | ⟨t, ht, rfl⟩
  · skip
    unfold wpX_addStmt
    refine br_f nf ?_
    unfold wpX_operandsFit
    refine br_f (by decide) (br_f (by decide) (br_f (by decide) (br_f (by decide) (br_f (by decide) (br_t rfl (dx_isVariable0 ba (br_t rfl (br_t rfl ?_))))))))
    unfold wpY_addStmt
    exact br_f (by decide) (br_f (by decide) (br_t lt (br_f (by decide) (br_f (by decide) (br_f (by decide) (br_f (by decide) (br_f (by decide) (dy_isVar0 ba (br_t rfl ⟨rfl, J⟩)))))))))
  rcases dl_rg b (n := 16) (by omega) with bb | ⟨s, hs, rfl⟩
  · skip
    unfold wpX_addStmt
    refine br_f nf ?_
    unfold wpX_operandsFit
    refine br_f (by decide) (br_f (by decide) (br_f (by decide) (br_f (by decide) (br_f (by decide) (br_t rfl (dx_isVariable1 ht (br_f (by decide) (dx_isVariable0 bb (br_t rfl (br_t rfl ?_))))))))))
    unfold wpY_addStmt
    exact br_f (by decide) (br_f (by decide) (br_t lt (br_f (by decide) (br_f (by decide) (br_f (by decide) (br_f (by decide) (br_f (by decide) (dy_isVar1 ht (br_f (by decide) (dy_isVar0 bb (br_t rfl ⟨rfl, J⟩)))))))))))
  rcases dl_rg c (n := 16) (by omega) with bc | ⟨m, hm, rfl⟩
  · skip
    unfold wpX_addStmt
    refine br_f nf ?_
    unfold wpX_operandsFit
    refine br_f (by decide) (br_f (by decide) (br_f (by decide) (br_f (by decide) (br_f (by decide) (br_t rfl (dx_isVariable1 ht (br_f (by decide) (dx_isVariable1 hs (br_f (by decide) (dx_isVariable0 bc (br_t rfl (br_t rfl ?_))))))))))))
    unfold wpY_addStmt
    exact br_f (by decide) (br_f (by decide) (br_t lt (br_f (by decide) (br_f (by decide) (br_f (by decide) (br_f (by decide) (br_f (by decide) (dy_isVar1 ht (br_f (by decide) (dy_isVar1 hs (br_f (by decide) (dy_isVar0 bc (br_t rfl ⟨rfl, J⟩)))))))))))))
  unfold wpX_addStmt
  refine br_f nf ?_
  unfold wpX_operandsFit
  refine br_f (by decide) (br_f (by decide) (br_f (by decide) (br_f (by decide) (br_f (by decide) (br_t rfl (dx_isVariable1 ht (br_f (by decide) (dx_isVariable1 hs (br_f (by decide) (dx_isVariable1 hm (br_f (by decide) (br_f (by decide) (?_)))))))))))))
  unfold wpX_operandCount
  refine br_f (by decide) (br_f (by decide) (br_f (by decide) (br_f (by decide) (br_f (by decide) (br_t rfl (dx_add3 L64 ?_))))))
  unfold wpY_addStmt
  exact br_f (by decide) (br_f (by decide) (br_t lt (br_f (by decide) (br_f (by decide) (br_f (by decide) (br_f (by decide) (br_f (by decide) (dy_isVar1 ht (br_f (by decide) (dy_isVar1 hs (br_f (by decide) (dy_isVar1 hm (br_f (by decide) (dy_add L64 ⟨rfl, dl_mkr (L := L + 1) ⟨⟨P2, P8⟩, ⟨by omega, C64⟩, Nat.zero_le _, hD, hA, hE, dl_Pw hp (Or.inr (Or.inr (Or.inr (Or.inl ⟨Or.inr (Or.inl rfl), ⟨t, ht, rfl⟩, ⟨s, hs, rfl⟩, ⟨m, hm, rfl⟩⟩)))), dl_zn4 oc, fun z => absurd rfl z⟩⟩))))))))))))))
theorem dl_a5 {kk P C L q : Nat} {a b c : Int32} (Q : dl_Q P C L q xS dA aA st jm oc ed sk sa sb sc) (hLC : L < C) : wpX_addStmt (fun r u' => wpY_addStmt (fun r' v' => r' = r ∧ i_Rel kk u' v') (nI P, nI C, xA, nI L, nI q, xS, xK, yD, ed, cl, po, sk, sa, sb, sc, ip, va, ov, oc, jl, pc, sv, bk, be) 5 a b c) (nI P, nI C, xA, nI L, xO, nI q, xS, xK, dA, aA, po, st, jm, pl, op, el, so, ip, va, ov, oc) 5 a b c := by
  obtain ⟨⟨P2, P8⟩, ⟨LC, C64⟩, qL, hD, hA, hE, hp, ho, hj⟩ := id Q
  have L64 : L < 64 := by omega
  have nf : ¬ nI C ≤ nI L := nI_ge hLC (by omega)
  have lt : nI L < nI C := nI_lt hLC (by omega)
  have J : i_Rel kk (nI P, nI C, xA, nI L, xO, nI q, xS, xK, dA, aA, po, st, jm, pl, op, el, so, ip, va, ov, oc) (nI P, nI C, xA, nI L, nI q, xS, xK, yD, ed, cl, po, sk, sa, sb, sc, ip, va, ov, oc, jl, pc, sv, bk, be) := dl_mk Q
  rcases dl_rg a (n := 16) (by omega) with ba | ⟨t, ht, rfl⟩
  · skip
    unfold wpX_addStmt
    refine br_f nf ?_
    unfold wpX_operandsFit
    refine br_f (by decide) (br_f (by decide) (br_f (by decide) (br_f (by decide) (br_f (by decide) (br_f (by decide) (br_t rfl (dx_isVariable0 ba (br_t rfl (br_t rfl ?_)))))))))
    unfold wpY_addStmt
    exact br_f (by decide) (br_f (by decide) (br_t lt (br_f (by decide) (br_f (by decide) (br_f (by decide) (br_f (by decide) (br_f (by decide) (dy_isVar0 ba (br_t rfl ⟨rfl, J⟩)))))))))
  rcases dl_rg b (n := 16) (by omega) with bb | ⟨s, hs, rfl⟩
  · skip
    unfold wpX_addStmt
    refine br_f nf ?_
    unfold wpX_operandsFit
    refine br_f (by decide) (br_f (by decide) (br_f (by decide) (br_f (by decide) (br_f (by decide) (br_f (by decide) (br_t rfl (dx_isVariable1 ht (br_f (by decide) (dx_isVariable0 bb (br_t rfl (br_t rfl ?_)))))))))))
    unfold wpY_addStmt
    exact br_f (by decide) (br_f (by decide) (br_t lt (br_f (by decide) (br_f (by decide) (br_f (by decide) (br_f (by decide) (br_f (by decide) (dy_isVar1 ht (br_f (by decide) (dy_isVar0 bb (br_t rfl ⟨rfl, J⟩)))))))))))
  rcases dl_rg c (n := 16) (by omega) with bc | ⟨m, hm, rfl⟩
  · skip
    unfold wpX_addStmt
    refine br_f nf ?_
    unfold wpX_operandsFit
    refine br_f (by decide) (br_f (by decide) (br_f (by decide) (br_f (by decide) (br_f (by decide) (br_f (by decide) (br_t rfl (dx_isVariable1 ht (br_f (by decide) (dx_isVariable1 hs (br_f (by decide) (dx_isVariable0 bc (br_t rfl (br_t rfl ?_)))))))))))))
    unfold wpY_addStmt
    exact br_f (by decide) (br_f (by decide) (br_t lt (br_f (by decide) (br_f (by decide) (br_f (by decide) (br_f (by decide) (br_f (by decide) (dy_isVar1 ht (br_f (by decide) (dy_isVar1 hs (br_f (by decide) (dy_isVar0 bc (br_t rfl ⟨rfl, J⟩)))))))))))))
  unfold wpX_addStmt
  refine br_f nf ?_
  unfold wpX_operandsFit
  refine br_f (by decide) (br_f (by decide) (br_f (by decide) (br_f (by decide) (br_f (by decide) (br_f (by decide) (br_t rfl (dx_isVariable1 ht (br_f (by decide) (dx_isVariable1 hs (br_f (by decide) (dx_isVariable1 hm (br_f (by decide) (br_f (by decide) (?_))))))))))))))
  unfold wpX_operandCount
  refine br_f (by decide) (br_f (by decide) (br_f (by decide) (br_f (by decide) (br_f (by decide) (br_f (by decide) (br_t rfl (dx_add3 L64 ?_)))))))
  unfold wpY_addStmt
  exact br_f (by decide) (br_f (by decide) (br_t lt (br_f (by decide) (br_f (by decide) (br_f (by decide) (br_f (by decide) (br_f (by decide) (dy_isVar1 ht (br_f (by decide) (dy_isVar1 hs (br_f (by decide) (dy_isVar1 hm (br_f (by decide) (dy_add L64 ⟨rfl, dl_mkr (L := L + 1) ⟨⟨P2, P8⟩, ⟨by omega, C64⟩, Nat.zero_le _, hD, hA, hE, dl_Pw hp (Or.inr (Or.inr (Or.inr (Or.inl ⟨Or.inr (Or.inr (Or.inl rfl)), ⟨t, ht, rfl⟩, ⟨s, hs, rfl⟩, ⟨m, hm, rfl⟩⟩)))), dl_zn4 oc, fun z => absurd rfl z⟩⟩))))))))))))))
theorem dl_a6 {kk P C L q : Nat} {a b c : Int32} (Q : dl_Q P C L q xS dA aA st jm oc ed sk sa sb sc) (hLC : L < C) : wpX_addStmt (fun r u' => wpY_addStmt (fun r' v' => r' = r ∧ i_Rel kk u' v') (nI P, nI C, xA, nI L, nI q, xS, xK, yD, ed, cl, po, sk, sa, sb, sc, ip, va, ov, oc, jl, pc, sv, bk, be) 6 a b c) (nI P, nI C, xA, nI L, xO, nI q, xS, xK, dA, aA, po, st, jm, pl, op, el, so, ip, va, ov, oc) 6 a b c := by
  obtain ⟨⟨P2, P8⟩, ⟨LC, C64⟩, qL, hD, hA, hE, hp, ho, hj⟩ := id Q
  have L64 : L < 64 := by omega
  have nf : ¬ nI C ≤ nI L := nI_ge hLC (by omega)
  have lt : nI L < nI C := nI_lt hLC (by omega)
  have J : i_Rel kk (nI P, nI C, xA, nI L, xO, nI q, xS, xK, dA, aA, po, st, jm, pl, op, el, so, ip, va, ov, oc) (nI P, nI C, xA, nI L, nI q, xS, xK, yD, ed, cl, po, sk, sa, sb, sc, ip, va, ov, oc, jl, pc, sv, bk, be) := dl_mk Q
  rcases dl_rg a (n := 16) (by omega) with ba | ⟨t, ht, rfl⟩
  · skip
    unfold wpX_addStmt
    refine br_f nf ?_
    unfold wpX_operandsFit
    refine br_f (by decide) (br_f (by decide) (br_f (by decide) (br_f (by decide) (br_f (by decide) (br_f (by decide) (br_f (by decide) (br_t rfl (dx_isVariable0 ba (br_t rfl (br_t rfl ?_))))))))))
    unfold wpY_addStmt
    exact br_f (by decide) (br_f (by decide) (br_t lt (br_f (by decide) (br_f (by decide) (br_f (by decide) (br_f (by decide) (br_f (by decide) (dy_isVar0 ba (br_t rfl ⟨rfl, J⟩)))))))))
  rcases dl_rg b (n := 16) (by omega) with bb | ⟨s, hs, rfl⟩
  · skip
    unfold wpX_addStmt
    refine br_f nf ?_
    unfold wpX_operandsFit
    refine br_f (by decide) (br_f (by decide) (br_f (by decide) (br_f (by decide) (br_f (by decide) (br_f (by decide) (br_f (by decide) (br_t rfl (dx_isVariable1 ht (br_f (by decide) (dx_isVariable0 bb (br_t rfl (br_t rfl ?_))))))))))))
    unfold wpY_addStmt
    exact br_f (by decide) (br_f (by decide) (br_t lt (br_f (by decide) (br_f (by decide) (br_f (by decide) (br_f (by decide) (br_f (by decide) (dy_isVar1 ht (br_f (by decide) (dy_isVar0 bb (br_t rfl ⟨rfl, J⟩)))))))))))
  rcases dl_rg c (n := 16) (by omega) with bc | ⟨m, hm, rfl⟩
  · skip
    unfold wpX_addStmt
    refine br_f nf ?_
    unfold wpX_operandsFit
    refine br_f (by decide) (br_f (by decide) (br_f (by decide) (br_f (by decide) (br_f (by decide) (br_f (by decide) (br_f (by decide) (br_t rfl (dx_isVariable1 ht (br_f (by decide) (dx_isVariable1 hs (br_f (by decide) (dx_isVariable0 bc (br_t rfl (br_t rfl ?_))))))))))))))
    unfold wpY_addStmt
    exact br_f (by decide) (br_f (by decide) (br_t lt (br_f (by decide) (br_f (by decide) (br_f (by decide) (br_f (by decide) (br_f (by decide) (dy_isVar1 ht (br_f (by decide) (dy_isVar1 hs (br_f (by decide) (dy_isVar0 bc (br_t rfl ⟨rfl, J⟩)))))))))))))
  unfold wpX_addStmt
  refine br_f nf ?_
  unfold wpX_operandsFit
  refine br_f (by decide) (br_f (by decide) (br_f (by decide) (br_f (by decide) (br_f (by decide) (br_f (by decide) (br_f (by decide) (br_t rfl (dx_isVariable1 ht (br_f (by decide) (dx_isVariable1 hs (br_f (by decide) (dx_isVariable1 hm (br_f (by decide) (br_f (by decide) (?_)))))))))))))))
  unfold wpX_operandCount
  refine br_f (by decide) (br_f (by decide) (br_f (by decide) (br_f (by decide) (br_f (by decide) (br_f (by decide) (br_f (by decide) (br_t rfl (dx_add3 L64 ?_))))))))
  unfold wpY_addStmt
  exact br_f (by decide) (br_f (by decide) (br_t lt (br_f (by decide) (br_f (by decide) (br_f (by decide) (br_f (by decide) (br_f (by decide) (dy_isVar1 ht (br_f (by decide) (dy_isVar1 hs (br_f (by decide) (dy_isVar1 hm (br_f (by decide) (dy_add L64 ⟨rfl, dl_mkr (L := L + 1) ⟨⟨P2, P8⟩, ⟨by omega, C64⟩, Nat.zero_le _, hD, hA, hE, dl_Pw hp (Or.inr (Or.inr (Or.inr (Or.inl ⟨Or.inr (Or.inr (Or.inr (Or.inl rfl))), ⟨t, ht, rfl⟩, ⟨s, hs, rfl⟩, ⟨m, hm, rfl⟩⟩)))), dl_zn4 oc, fun z => absurd rfl z⟩⟩))))))))))))))
theorem dl_a7 {kk P C L q : Nat} {a b c : Int32} (Q : dl_Q P C L q xS dA aA st jm oc ed sk sa sb sc) (hLC : L < C) : wpX_addStmt (fun r u' => wpY_addStmt (fun r' v' => r' = r ∧ i_Rel kk u' v') (nI P, nI C, xA, nI L, nI q, xS, xK, yD, ed, cl, po, sk, sa, sb, sc, ip, va, ov, oc, jl, pc, sv, bk, be) 7 a b c) (nI P, nI C, xA, nI L, xO, nI q, xS, xK, dA, aA, po, st, jm, pl, op, el, so, ip, va, ov, oc) 7 a b c := by
  obtain ⟨⟨P2, P8⟩, ⟨LC, C64⟩, qL, hD, hA, hE, hp, ho, hj⟩ := id Q
  have L64 : L < 64 := by omega
  have nf : ¬ nI C ≤ nI L := nI_ge hLC (by omega)
  have lt : nI L < nI C := nI_lt hLC (by omega)
  have J : i_Rel kk (nI P, nI C, xA, nI L, xO, nI q, xS, xK, dA, aA, po, st, jm, pl, op, el, so, ip, va, ov, oc) (nI P, nI C, xA, nI L, nI q, xS, xK, yD, ed, cl, po, sk, sa, sb, sc, ip, va, ov, oc, jl, pc, sv, bk, be) := dl_mk Q
  rcases dl_rg a (n := 16) (by omega) with ba | ⟨t, ht, rfl⟩
  · skip
    unfold wpX_addStmt
    refine br_f nf ?_
    unfold wpX_operandsFit
    refine br_f (by decide) (br_f (by decide) (br_f (by decide) (br_f (by decide) (br_f (by decide) (br_f (by decide) (br_f (by decide) (br_f (by decide) (br_t rfl (dx_isVariable0 ba (br_t rfl (br_t rfl ?_)))))))))))
    unfold wpY_addStmt
    exact br_f (by decide) (br_f (by decide) (br_t lt (br_f (by decide) (br_f (by decide) (br_f (by decide) (br_f (by decide) (br_f (by decide) (dy_isVar0 ba (br_t rfl ⟨rfl, J⟩)))))))))
  rcases dl_rg b (n := 16) (by omega) with bb | ⟨s, hs, rfl⟩
  · skip
    unfold wpX_addStmt
    refine br_f nf ?_
    unfold wpX_operandsFit
    refine br_f (by decide) (br_f (by decide) (br_f (by decide) (br_f (by decide) (br_f (by decide) (br_f (by decide) (br_f (by decide) (br_f (by decide) (br_t rfl (dx_isVariable1 ht (br_f (by decide) (dx_isVariable0 bb (br_t rfl (br_t rfl ?_)))))))))))))
    unfold wpY_addStmt
    exact br_f (by decide) (br_f (by decide) (br_t lt (br_f (by decide) (br_f (by decide) (br_f (by decide) (br_f (by decide) (br_f (by decide) (dy_isVar1 ht (br_f (by decide) (dy_isVar0 bb (br_t rfl ⟨rfl, J⟩)))))))))))
  rcases dl_rg c (n := 16) (by omega) with bc | ⟨m, hm, rfl⟩
  · skip
    unfold wpX_addStmt
    refine br_f nf ?_
    unfold wpX_operandsFit
    refine br_f (by decide) (br_f (by decide) (br_f (by decide) (br_f (by decide) (br_f (by decide) (br_f (by decide) (br_f (by decide) (br_f (by decide) (br_t rfl (dx_isVariable1 ht (br_f (by decide) (dx_isVariable1 hs (br_f (by decide) (dx_isVariable0 bc (br_t rfl (br_t rfl ?_)))))))))))))))
    unfold wpY_addStmt
    exact br_f (by decide) (br_f (by decide) (br_t lt (br_f (by decide) (br_f (by decide) (br_f (by decide) (br_f (by decide) (br_f (by decide) (dy_isVar1 ht (br_f (by decide) (dy_isVar1 hs (br_f (by decide) (dy_isVar0 bc (br_t rfl ⟨rfl, J⟩)))))))))))))
  unfold wpX_addStmt
  refine br_f nf ?_
  unfold wpX_operandsFit
  refine br_f (by decide) (br_f (by decide) (br_f (by decide) (br_f (by decide) (br_f (by decide) (br_f (by decide) (br_f (by decide) (br_f (by decide) (br_t rfl (dx_isVariable1 ht (br_f (by decide) (dx_isVariable1 hs (br_f (by decide) (dx_isVariable1 hm (br_f (by decide) (br_f (by decide) (?_))))))))))))))))
  unfold wpX_operandCount
  refine br_f (by decide) (br_f (by decide) (br_f (by decide) (br_f (by decide) (br_f (by decide) (br_f (by decide) (br_f (by decide) (br_f (by decide) (br_t rfl (dx_add3 L64 ?_)))))))))
  unfold wpY_addStmt
  exact br_f (by decide) (br_f (by decide) (br_t lt (br_f (by decide) (br_f (by decide) (br_f (by decide) (br_f (by decide) (br_f (by decide) (dy_isVar1 ht (br_f (by decide) (dy_isVar1 hs (br_f (by decide) (dy_isVar1 hm (br_f (by decide) (dy_add L64 ⟨rfl, dl_mkr (L := L + 1) ⟨⟨P2, P8⟩, ⟨by omega, C64⟩, Nat.zero_le _, hD, hA, hE, dl_Pw hp (Or.inr (Or.inr (Or.inr (Or.inl ⟨Or.inr (Or.inr (Or.inr (Or.inr rfl))), ⟨t, ht, rfl⟩, ⟨s, hs, rfl⟩, ⟨m, hm, rfl⟩⟩)))), dl_zn4 oc, fun z => absurd rfl z⟩⟩))))))))))))))
theorem dl_a8 {kk P C L q : Nat} {a b c : Int32} (Q : dl_Q P C L q xS dA aA st jm oc ed sk sa sb sc) (hLC : L < C) : wpX_addStmt (fun r u' => wpY_addStmt (fun r' v' => r' = r ∧ i_Rel kk u' v') (nI P, nI C, xA, nI L, nI q, xS, xK, yD, ed, cl, po, sk, sa, sb, sc, ip, va, ov, oc, jl, pc, sv, bk, be) 8 a b c) (nI P, nI C, xA, nI L, xO, nI q, xS, xK, dA, aA, po, st, jm, pl, op, el, so, ip, va, ov, oc) 8 a b c := by
  obtain ⟨⟨P2, P8⟩, ⟨LC, C64⟩, qL, hD, hA, hE, hp, ho, hj⟩ := id Q
  have L64 : L < 64 := by omega
  have nf : ¬ nI C ≤ nI L := nI_ge hLC (by omega)
  have lt : nI L < nI C := nI_lt hLC (by omega)
  have J : i_Rel kk (nI P, nI C, xA, nI L, xO, nI q, xS, xK, dA, aA, po, st, jm, pl, op, el, so, ip, va, ov, oc) (nI P, nI C, xA, nI L, nI q, xS, xK, yD, ed, cl, po, sk, sa, sb, sc, ip, va, ov, oc, jl, pc, sv, bk, be) := dl_mk Q
  rcases dl_rg a (n := 16) (by omega) with ba | ⟨t, ht, rfl⟩
  · skip
    unfold wpX_addStmt
    refine br_f nf ?_
    unfold wpX_operandsFit
    refine br_f (by decide) (br_f (by decide) (br_f (by decide) (br_f (by decide) (br_f (by decide) (br_f (by decide) (br_f (by decide) (br_f (by decide) (br_f (by decide) (br_t rfl (dx_isVariable0 ba ⟨rfl, br_t rfl ?_⟩))))))))))
    unfold wpY_addStmt
    exact br_f (by decide) (br_f (by decide) (br_t lt (br_f (by decide) (br_f (by decide) (br_f (by decide) (br_f (by decide) (br_t (by decide) (br_t rfl (dy_isVar0 ba (br_t rfl ⟨rfl, J⟩))))))))))
  · skip
    unfold wpX_addStmt
    refine br_f nf ?_
    unfold wpX_operandsFit
    refine br_f (by decide) (br_f (by decide) (br_f (by decide) (br_f (by decide) (br_f (by decide) (br_f (by decide) (br_f (by decide) (br_f (by decide) (br_f (by decide) (br_t rfl (dx_isVariable1 ht ⟨rfl, br_f (by decide) (?_)⟩))))))))))
    unfold wpX_operandCount
    refine br_f (by decide) (br_f (by decide) (br_f (by decide) (br_f (by decide) (br_f (by decide) (br_f (by decide) (br_f (by decide) (br_f (by decide) (br_f (by decide) (br_t rfl (dx_add1 L64 ?_))))))))))
    unfold wpY_addStmt
    exact br_f (by decide) (br_f (by decide) (br_t lt (br_f (by decide) (br_f (by decide) (br_f (by decide) (br_f (by decide) (br_t (by decide) (br_t rfl (dy_isVar1 ht (br_f (by decide) (dy_add L64 ⟨rfl, dl_mkr (L := L + 1) ⟨⟨P2, P8⟩, ⟨by omega, C64⟩, Nat.zero_le _, hD, hA, hE, dl_Pw hp (Or.inr (Or.inr (Or.inr (Or.inr (Or.inl ⟨Or.inl rfl, ⟨t, ht, rfl⟩⟩))))), dl_zn4 oc, fun z => absurd rfl z⟩⟩)))))))))))
theorem dl_a9 {kk P C L q : Nat} {a b c : Int32} (Q : dl_Q P C L q xS dA aA st jm oc ed sk sa sb sc) (hLC : L < C) : wpX_addStmt (fun r u' => wpY_addStmt (fun r' v' => r' = r ∧ i_Rel kk u' v') (nI P, nI C, xA, nI L, nI q, xS, xK, yD, ed, cl, po, sk, sa, sb, sc, ip, va, ov, oc, jl, pc, sv, bk, be) 9 a b c) (nI P, nI C, xA, nI L, xO, nI q, xS, xK, dA, aA, po, st, jm, pl, op, el, so, ip, va, ov, oc) 9 a b c := by
  obtain ⟨⟨P2, P8⟩, ⟨LC, C64⟩, qL, hD, hA, hE, hp, ho, hj⟩ := id Q
  have L64 : L < 64 := by omega
  have nf : ¬ nI C ≤ nI L := nI_ge hLC (by omega)
  have lt : nI L < nI C := nI_lt hLC (by omega)
  have J : i_Rel kk (nI P, nI C, xA, nI L, xO, nI q, xS, xK, dA, aA, po, st, jm, pl, op, el, so, ip, va, ov, oc) (nI P, nI C, xA, nI L, nI q, xS, xK, yD, ed, cl, po, sk, sa, sb, sc, ip, va, ov, oc, jl, pc, sv, bk, be) := dl_mk Q
  unfold wpX_addStmt
  refine br_f nf ?_
  unfold wpX_operandsFit
  refine br_f (by decide) (br_f (by decide) (br_f (by decide) (br_f (by decide) (br_f (by decide) (br_f (by decide) (br_f (by decide) (br_f (by decide) (br_f (by decide) (br_f (by decide) (br_t rfl (br_f (by decide) (?_))))))))))))
  unfold wpX_operandCount
  refine br_f (by decide) (br_f (by decide) (br_f (by decide) (br_f (by decide) (br_f (by decide) (br_f (by decide) (br_f (by decide) (br_f (by decide) (br_f (by decide) (br_f (by decide) (br_t rfl (dx_add0 L64 ?_)))))))))))
  unfold wpY_addStmt
  exact br_f (by decide) (br_f (by decide) (br_t lt (br_f (by decide) (br_f (by decide) (br_f (by decide) (br_f (by decide) (br_t (by decide) (br_f (by decide) (br_f (by decide) (br_f (by decide) (dy_add L64 ⟨rfl, dl_mkr (L := L + 1) ⟨⟨P2, P8⟩, ⟨by omega, C64⟩, Nat.zero_le _, hD, hA, hE, dl_Pw hp (Or.inr (Or.inr (Or.inr (Or.inr (Or.inr (Or.inl rfl)))))), dl_zn4 oc, fun z => absurd rfl z⟩⟩)))))))))))
theorem dl_a10 {kk P C L q : Nat} {a b c : Int32} (Q : dl_Q P C L q xS dA aA st jm oc ed sk sa sb sc) (hLC : L < C) : wpX_addStmt (fun r u' => wpY_addStmt (fun r' v' => r' = r ∧ i_Rel kk u' v') (nI P, nI C, xA, nI L, nI q, xS, xK, yD, ed, cl, po, sk, sa, sb, sc, ip, va, ov, oc, jl, pc, sv, bk, be) 10 a b c) (nI P, nI C, xA, nI L, xO, nI q, xS, xK, dA, aA, po, st, jm, pl, op, el, so, ip, va, ov, oc) 10 a b c := by
  obtain ⟨⟨P2, P8⟩, ⟨LC, C64⟩, qL, hD, hA, hE, hp, ho, hj⟩ := id Q
  have L64 : L < 64 := by omega
  have nf : ¬ nI C ≤ nI L := nI_ge hLC (by omega)
  have lt : nI L < nI C := nI_lt hLC (by omega)
  have J : i_Rel kk (nI P, nI C, xA, nI L, xO, nI q, xS, xK, dA, aA, po, st, jm, pl, op, el, so, ip, va, ov, oc) (nI P, nI C, xA, nI L, nI q, xS, xK, yD, ed, cl, po, sk, sa, sb, sc, ip, va, ov, oc, jl, pc, sv, bk, be) := dl_mk Q
  unfold wpX_addStmt
  refine br_f nf ?_
  unfold wpX_operandsFit
  refine br_f (by decide) (br_f (by decide) (br_f (by decide) (br_f (by decide) (br_f (by decide) (br_f (by decide) (br_f (by decide) (br_f (by decide) (br_f (by decide) (br_f (by decide) (br_f (by decide) (br_t rfl (br_f (by decide) (?_)))))))))))))
  unfold wpX_operandCount
  refine br_f (by decide) (br_f (by decide) (br_f (by decide) (br_f (by decide) (br_f (by decide) (br_f (by decide) (br_f (by decide) (br_f (by decide) (br_f (by decide) (br_f (by decide) (br_f (by decide) (br_t rfl (dx_add0 L64 ?_))))))))))))
  unfold wpY_addStmt
  exact br_f (by decide) (br_f (by decide) (br_t lt (br_f (by decide) (br_f (by decide) (br_f (by decide) (br_f (by decide) (br_t (by decide) (br_f (by decide) (br_f (by decide) (br_f (by decide) (dy_add L64 ⟨rfl, dl_mkr (L := L + 1) ⟨⟨P2, P8⟩, ⟨by omega, C64⟩, Nat.zero_le _, hD, hA, hE, dl_Pw hp (Or.inr (Or.inr (Or.inr (Or.inr (Or.inr (Or.inr (Or.inl rfl))))))), dl_zn4 oc, fun z => absurd rfl z⟩⟩)))))))))))
theorem dl_a11 {kk P C L q : Nat} {a b c : Int32} (Q : dl_Q P C L q xS dA aA st jm oc ed sk sa sb sc) (hLC : L < C) : wpX_addStmt (fun r u' => wpY_addStmt (fun r' v' => r' = r ∧ i_Rel kk u' v') (nI P, nI C, xA, nI L, nI q, xS, xK, yD, ed, cl, po, sk, sa, sb, sc, ip, va, ov, oc, jl, pc, sv, bk, be) 11 a b c) (nI P, nI C, xA, nI L, xO, nI q, xS, xK, dA, aA, po, st, jm, pl, op, el, so, ip, va, ov, oc) 11 a b c := by
  obtain ⟨⟨P2, P8⟩, ⟨LC, C64⟩, qL, hD, hA, hE, hp, ho, hj⟩ := id Q
  have L64 : L < 64 := by omega
  have nf : ¬ nI C ≤ nI L := nI_ge hLC (by omega)
  have lt : nI L < nI C := nI_lt hLC (by omega)
  have J : i_Rel kk (nI P, nI C, xA, nI L, xO, nI q, xS, xK, dA, aA, po, st, jm, pl, op, el, so, ip, va, ov, oc) (nI P, nI C, xA, nI L, nI q, xS, xK, yD, ed, cl, po, sk, sa, sb, sc, ip, va, ov, oc, jl, pc, sv, bk, be) := dl_mk Q
  rcases dl_rg a (n := 16) (by omega) with ba | ⟨t, ht, rfl⟩
  · skip
    unfold wpX_addStmt
    refine br_f nf ?_
    unfold wpX_operandsFit
    refine br_f (by decide) (br_f (by decide) (br_f (by decide) (br_f (by decide) (br_f (by decide) (br_f (by decide) (br_f (by decide) (br_f (by decide) (br_f (by decide) (br_f (by decide) (br_f (by decide) (br_f (by decide) (br_t rfl (dx_isVariable0 ba ⟨rfl, br_t rfl ?_⟩)))))))))))))
    unfold wpY_addStmt
    exact br_f (by decide) (br_f (by decide) (br_t lt (br_f (by decide) (br_f (by decide) (br_f (by decide) (br_f (by decide) (br_t (by decide) (br_f (by decide) (br_t rfl (dy_isVar0 ba (br_t rfl ⟨rfl, J⟩)))))))))))
  · skip
    unfold wpX_addStmt
    refine br_f nf ?_
    unfold wpX_operandsFit
    refine br_f (by decide) (br_f (by decide) (br_f (by decide) (br_f (by decide) (br_f (by decide) (br_f (by decide) (br_f (by decide) (br_f (by decide) (br_f (by decide) (br_f (by decide) (br_f (by decide) (br_f (by decide) (br_t rfl (dx_isVariable1 ht ⟨rfl, br_f (by decide) (?_)⟩)))))))))))))
    unfold wpX_operandCount
    refine br_f (by decide) (br_f (by decide) (br_f (by decide) (br_f (by decide) (br_f (by decide) (br_f (by decide) (br_f (by decide) (br_f (by decide) (br_f (by decide) (br_f (by decide) (br_f (by decide) (br_f (by decide) (br_t rfl (dx_add1 L64 ?_)))))))))))))
    unfold wpY_addStmt
    exact br_f (by decide) (br_f (by decide) (br_t lt (br_f (by decide) (br_f (by decide) (br_f (by decide) (br_f (by decide) (br_t (by decide) (br_f (by decide) (br_t rfl (dy_isVar1 ht (br_f (by decide) (dy_add L64 ⟨rfl, dl_mkr (L := L + 1) ⟨⟨P2, P8⟩, ⟨by omega, C64⟩, Nat.zero_le _, hD, hA, hE, dl_Pw hp (Or.inr (Or.inr (Or.inr (Or.inr (Or.inl ⟨Or.inr rfl, ⟨t, ht, rfl⟩⟩))))), dl_zn4 oc, fun z => absurd rfl z⟩⟩))))))))))))
theorem dl_a12 {kk P C L q : Nat} {a b c : Int32} (Q : dl_Q P C L q xS dA aA st jm oc ed sk sa sb sc) (hLC : L < C) : wpX_addStmt (fun r u' => wpY_addStmt (fun r' v' => r' = r ∧ i_Rel kk u' v') (nI P, nI C, xA, nI L, nI q, xS, xK, yD, ed, cl, po, sk, sa, sb, sc, ip, va, ov, oc, jl, pc, sv, bk, be) 12 a b c) (nI P, nI C, xA, nI L, xO, nI q, xS, xK, dA, aA, po, st, jm, pl, op, el, so, ip, va, ov, oc) 12 a b c := by
  obtain ⟨⟨P2, P8⟩, ⟨LC, C64⟩, qL, hD, hA, hE, hp, ho, hj⟩ := id Q
  have L64 : L < 64 := by omega
  have nf : ¬ nI C ≤ nI L := nI_ge hLC (by omega)
  have lt : nI L < nI C := nI_lt hLC (by omega)
  have J : i_Rel kk (nI P, nI C, xA, nI L, xO, nI q, xS, xK, dA, aA, po, st, jm, pl, op, el, so, ip, va, ov, oc) (nI P, nI C, xA, nI L, nI q, xS, xK, yD, ed, cl, po, sk, sa, sb, sc, ip, va, ov, oc, jl, pc, sv, bk, be) := dl_mk Q
  rcases dl_rg a (n := 4) (by omega) with ba | ⟨t, ht, rfl⟩
  · rcases ba with ba | ba
    · skip
      unfold wpX_addStmt
      refine br_f nf ?_
      unfold wpX_operandsFit
      refine br_f (by decide) (br_f (by decide) (br_f (by decide) (br_f (by decide) (br_f (by decide) (br_f (by decide) (br_f (by decide) (br_f (by decide) (br_f (by decide) (br_f (by decide) (br_f (by decide) (br_f (by decide) (br_f (by decide) (br_t rfl (dx_isChannel0 (Or.inl ba) (br_t rfl (br_t rfl ?_))))))))))))))))
      unfold wpY_addStmt
      exact br_f (by decide) (br_f (by decide) (br_t lt (br_f (by decide) (br_f (by decide) (br_f (by decide) (br_f (by decide) (br_t (by decide) (br_f (by decide) (br_f (by decide) (br_t rfl (br_t ba ⟨rfl, J⟩)))))))))))
    · skip
      unfold wpX_addStmt
      refine br_f nf ?_
      unfold wpX_operandsFit
      refine br_f (by decide) (br_f (by decide) (br_f (by decide) (br_f (by decide) (br_f (by decide) (br_f (by decide) (br_f (by decide) (br_f (by decide) (br_f (by decide) (br_f (by decide) (br_f (by decide) (br_f (by decide) (br_f (by decide) (br_t rfl (dx_isChannel0 (Or.inr ba) (br_t rfl (br_t rfl ?_))))))))))))))))
      unfold wpY_addStmt
      exact br_f (by decide) (br_f (by decide) (br_t lt (br_f (by decide) (br_f (by decide) (br_f (by decide) (br_f (by decide) (br_t (by decide) (br_f (by decide) (br_f (by decide) (br_t rfl (br_f ba.1 (br_t ba.2 ⟨rfl, J⟩))))))))))))
  have t0 : ¬ nI t < 0 := nI_pos (by omega)
  have t4 : ¬ (4 : Int32) ≤ nI t := nI_ge (b := 4) ht (by omega)
  rcases dl_rg b (n := 16) (by omega) with bb | ⟨s, hs, rfl⟩
  · skip
    unfold wpX_addStmt
    refine br_f nf ?_
    unfold wpX_operandsFit
    refine br_f (by decide) (br_f (by decide) (br_f (by decide) (br_f (by decide) (br_f (by decide) (br_f (by decide) (br_f (by decide) (br_f (by decide) (br_f (by decide) (br_f (by decide) (br_f (by decide) (br_f (by decide) (br_f (by decide) (br_t rfl (dx_isChannel1 ht (br_f (by decide) (dx_isVariable0 bb (br_t rfl (br_t rfl ?_))))))))))))))))))
    unfold wpY_addStmt
    exact br_f (by decide) (br_f (by decide) (br_t lt (br_f (by decide) (br_f (by decide) (br_f (by decide) (br_f (by decide) (br_t (by decide) (br_f (by decide) (br_f (by decide) (br_t rfl (br_f t0 (br_f t4 (dy_isVar0 bb (br_t rfl ⟨rfl, J⟩))))))))))))))
  unfold wpX_addStmt
  refine br_f nf ?_
  unfold wpX_operandsFit
  refine br_f (by decide) (br_f (by decide) (br_f (by decide) (br_f (by decide) (br_f (by decide) (br_f (by decide) (br_f (by decide) (br_f (by decide) (br_f (by decide) (br_f (by decide) (br_f (by decide) (br_f (by decide) (br_f (by decide) (br_t rfl (dx_isChannel1 ht (br_f (by decide) (dx_isVariable1 hs (br_f (by decide) (br_f (by decide) (?_)))))))))))))))))))
  unfold wpX_operandCount
  refine br_f (by decide) (br_f (by decide) (br_f (by decide) (br_f (by decide) (br_f (by decide) (br_f (by decide) (br_f (by decide) (br_f (by decide) (br_f (by decide) (br_f (by decide) (br_f (by decide) (br_f (by decide) (br_f (by decide) (br_t rfl (dx_add2 L64 ?_))))))))))))))
  unfold wpY_addStmt
  exact br_f (by decide) (br_f (by decide) (br_t lt (br_f (by decide) (br_f (by decide) (br_f (by decide) (br_f (by decide) (br_t (by decide) (br_f (by decide) (br_f (by decide) (br_t rfl (br_f t0 (br_f t4 (dy_isVar1 hs (br_f (by decide) (dy_add L64 ⟨rfl, dl_mkr (L := L + 1) ⟨⟨P2, P8⟩, ⟨by omega, C64⟩, Nat.zero_le _, hD, hA, hE, dl_Pw hp (Or.inr (Or.inr (Or.inr (Or.inr (Or.inr (Or.inr (Or.inr ⟨rfl, ⟨t, ht, rfl⟩, ⟨s, hs, rfl⟩⟩))))))), dl_zn4 oc, fun z => absurd rfl z⟩⟩)))))))))))))))
theorem dl_a13 {kk P C L q : Nat} {a b c : Int32} (Q : dl_Q P C L q xS dA aA st jm oc ed sk sa sb sc) (hLC : L < C) : wpX_addStmt (fun r u' => wpY_addStmt (fun r' v' => r' = r ∧ i_Rel kk u' v') (nI P, nI C, xA, nI L, nI q, xS, xK, yD, ed, cl, po, sk, sa, sb, sc, ip, va, ov, oc, jl, pc, sv, bk, be) 13 a b c) (nI P, nI C, xA, nI L, xO, nI q, xS, xK, dA, aA, po, st, jm, pl, op, el, so, ip, va, ov, oc) 13 a b c := by
  obtain ⟨⟨P2, P8⟩, ⟨LC, C64⟩, qL, hD, hA, hE, hp, ho, hj⟩ := id Q
  have L64 : L < 64 := by omega
  have nf : ¬ nI C ≤ nI L := nI_ge hLC (by omega)
  have lt : nI L < nI C := nI_lt hLC (by omega)
  have J : i_Rel kk (nI P, nI C, xA, nI L, xO, nI q, xS, xK, dA, aA, po, st, jm, pl, op, el, so, ip, va, ov, oc) (nI P, nI C, xA, nI L, nI q, xS, xK, yD, ed, cl, po, sk, sa, sb, sc, ip, va, ov, oc, jl, pc, sv, bk, be) := dl_mk Q
  rcases dl_rg a (n := 16) (by omega) with ba | ⟨t, ht, rfl⟩
  · skip
    unfold wpX_addStmt
    refine br_f nf ?_
    unfold wpX_operandsFit
    refine br_f (by decide) (br_f (by decide) (br_f (by decide) (br_f (by decide) (br_f (by decide) (br_f (by decide) (br_f (by decide) (br_f (by decide) (br_f (by decide) (br_f (by decide) (br_f (by decide) (br_f (by decide) (br_f (by decide) (br_f (by decide) (br_t rfl (dx_isVariable0 ba (br_t rfl (br_t rfl ?_)))))))))))))))))
    unfold wpY_addStmt
    exact br_f (by decide) (br_f (by decide) (br_t lt (br_f (by decide) (br_f (by decide) (br_t rfl (dy_isVar0 ba (br_t rfl ⟨rfl, J⟩)))))))
  rcases dl_rg b (n := 16) (by omega) with bb | ⟨s, hs, rfl⟩
  · skip
    unfold wpX_addStmt
    refine br_f nf ?_
    unfold wpX_operandsFit
    refine br_f (by decide) (br_f (by decide) (br_f (by decide) (br_f (by decide) (br_f (by decide) (br_f (by decide) (br_f (by decide) (br_f (by decide) (br_f (by decide) (br_f (by decide) (br_f (by decide) (br_f (by decide) (br_f (by decide) (br_f (by decide) (br_t rfl (dx_isVariable1 ht (br_f (by decide) (dx_isVariable0 bb (br_t rfl (br_t rfl ?_)))))))))))))))))))
    unfold wpY_addStmt
    exact br_f (by decide) (br_f (by decide) (br_t lt (br_f (by decide) (br_f (by decide) (br_t rfl (dy_isVar1 ht (br_f (by decide) (dy_isVar0 bb (br_t rfl ⟨rfl, J⟩)))))))))
  unfold wpX_addStmt
  refine br_f nf ?_
  unfold wpX_operandsFit
  refine br_f (by decide) (br_f (by decide) (br_f (by decide) (br_f (by decide) (br_f (by decide) (br_f (by decide) (br_f (by decide) (br_f (by decide) (br_f (by decide) (br_f (by decide) (br_f (by decide) (br_f (by decide) (br_f (by decide) (br_f (by decide) (br_t rfl (dx_isVariable1 ht (br_f (by decide) (dx_isVariable1 hs (br_f (by decide) (br_f (by decide) (?_))))))))))))))))))))
  unfold wpX_operandCount
  refine br_f (by decide) (br_f (by decide) (br_f (by decide) (br_f (by decide) (br_f (by decide) (br_f (by decide) (br_f (by decide) (br_f (by decide) (br_f (by decide) (br_f (by decide) (br_f (by decide) (br_f (by decide) (br_f (by decide) (br_f (by decide) (br_t rfl (dx_add2 L64 ?_)))))))))))))))
  unfold wpY_addStmt
  exact br_f (by decide) (br_f (by decide) (br_t lt (br_f (by decide) (br_f (by decide) (br_t rfl (dy_isVar1 ht (br_f (by decide) (dy_isVar1 hs (br_f (by decide) (dy_add L64 ⟨rfl, dl_mkr (L := L + 1) ⟨⟨P2, P8⟩, ⟨by omega, C64⟩, Nat.zero_le _, hD, hA, hE, dl_Pw hp (Or.inr (Or.inr (Or.inl ⟨rfl, ⟨t, ht, rfl⟩, ⟨s, hs, rfl⟩⟩))), dl_zn4 oc, fun z => absurd rfl z⟩⟩))))))))))
theorem dl_k14 {x : Int32} (b : x < 0 ∨ (¬ x < 0 ∧ nI 14 ≤ x)) : x < 1 ∨ (¬ x < 1 ∧ 13 < x) := by
  have e1 : (1 : Int32).toInt = 1 := by decide
  have e0 : (0 : Int32).toInt = 0 := by decide
  have e13 : (13 : Int32).toInt = 13 := by decide
  rcases b with b | b
  · rw [Int32.lt_iff_toInt_lt] at b
    exact Or.inl (by rw [Int32.lt_iff_toInt_lt]; omega)
  · have q := b.2
    rw [Int32.le_iff_toInt_le, nI_toInt (by omega)] at q
    exact Or.inr ⟨by rw [Int32.lt_iff_toInt_lt]; omega, by rw [Int32.lt_iff_toInt_lt]; omega⟩
theorem i_vc_addStmt {k : Nat} {u : SX} {v : SY} (I : i_Rel k u v) (hk : k + 5 ≤ 2562) (v1 : Int32) (v2 : Int32) (v3 : Int32) (v4 : Int32) : wpX_addStmt (fun r u' => wpY_addStmt (fun r' v' => r' = r ∧ i_Rel (k + 5) u' v') v v1 v2 v3 v4) u v1 v2 v3 v4 := by
  have J := I
  obtain ⟨xP, xC, xA, xL, xO, xQ, xS, xK, dA, aA, po, st, jm, pl, op, el, so, ip, va, ov, oc⟩ := u
  obtain ⟨yP, yC, yA, yL, yQ, yS, yK, yD, ed, cl, py, sk, sa, sb, sc, yi, yv, yo, yn, jl, pc, sv, bk, be⟩ := v
  obtain ⟨P, C, L, q, rfl, rfl, rfl, rfl, rfl, rfl, rfl, rfl, rfl, rfl, rfl, rfl, rfl, rfl, rfl, rfl, Q⟩ := I
  obtain ⟨⟨P2, P8⟩, ⟨LC, C64⟩, qL, hD, hA, hE, hp, ho, hj⟩ := id Q
  rcases Nat.lt_or_ge L C with hLC | hLC
  · have nf : ¬ nI C ≤ nI L := nI_ge hLC (by omega)
    have bad : (v1 < 1 ∨ (¬ v1 < 1 ∧ 13 < v1)) → wpX_addStmt (fun r u' => wpY_addStmt (fun r' v' => r' = r ∧ i_Rel (k + 5) u' v') (nI P, nI C, xA, nI L, nI q, xS, xK, yD, ed, cl, po, sk, sa, sb, sc, ip, va, ov, oc, jl, pc, sv, bk, be) v1 v2 v3 v4) (nI P, nI C, xA, nI L, xO, nI q, xS, xK, dA, aA, po, st, jm, pl, op, el, so, ip, va, ov, oc) v1 v2 v3 v4 := by
      intro b
      unfold wpX_addStmt
      refine br_f nf ?_
      unfold wpX_operandsFit
      rcases b with b | b
      · refine br_t b (br_t rfl ?_)
        unfold wpY_addStmt
        exact br_t b ⟨rfl, J⟩
      · refine br_f b.1 (br_t b.2 (br_t rfl ?_))
        unfold wpY_addStmt
        exact br_f b.1 (br_t b.2 ⟨rfl, J⟩)
    rcases dl_rg v1 (n := 14) (by omega) with b | ⟨j, hj', rfl⟩
    · exact bad (dl_k14 b)
    · have ej : j = 0 ∨ j = 1 ∨ j = 2 ∨ j = 3 ∨ j = 4 ∨ j = 5 ∨ j = 6 ∨ j = 7 ∨ j = 8 ∨ j = 9 ∨ j = 10 ∨ j = 11 ∨ j = 12 ∨ j = 13 := by omega
      rcases ej with e | e | e | e | e | e | e | e | e | e | e | e | e | e <;> subst e
      · exact bad (Or.inl (by decide))
      · exact dl_a1 Q hLC
      · exact dl_a2 Q hLC
      · exact dl_a3 Q hLC
      · exact dl_a4 Q hLC
      · exact dl_a5 Q hLC
      · exact dl_a6 Q hLC
      · exact dl_a7 Q hLC
      · exact dl_a8 Q hLC
      · exact dl_a9 Q hLC
      · exact dl_a10 Q hLC
      · exact dl_a11 Q hLC
      · exact dl_a12 Q hLC
      · exact dl_a13 Q hLC
  · have fl : nI C ≤ nI L := nI_le hLC (by omega)
    have nlt : ¬ nI L < nI C := nI_nlt hLC (by omega)
    unfold wpX_addStmt
    refine br_t fl ?_
    unfold wpY_addStmt
    exact br_c (fun _ => ⟨rfl, J⟩) (fun _ => br_c (fun _ => ⟨rfl, J⟩) (fun _ => br_f nlt ⟨rfl, J⟩))
end
end
