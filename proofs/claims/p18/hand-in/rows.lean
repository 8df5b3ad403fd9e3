section
/-! rows of the kit to paste: bits; pure rows -/
def bt (x : Int32) (i : Nat) : Bool := x.toBitVec.getLsbD i
theorem b_ext {x y : Int32} (h : ∀ i, i < 32 → bt x i = bt y i) : x = y := Int32.toBitVec_inj.mp (BitVec.eq_of_getLsbD_eq (fun i hi => h i hi))
theorem b_or (x y : Int32) (i : Nat) : bt (x ||| y) i = (bt x i || bt y i) := by unfold bt; rw [Int32.toBitVec_or, BitVec.getLsbD_or]
theorem b_and (x y : Int32) (i : Nat) : bt (x &&& y) i = (bt x i && bt y i) := by unfold bt; rw [Int32.toBitVec_and, BitVec.getLsbD_and]
theorem b_xor (x y : Int32) (i : Nat) : bt (x ^^^ y) i = (bt x i ^^ bt y i) := by unfold bt; rw [Int32.toBitVec_xor, BitVec.getLsbD_xor]
theorem b_big {x : Int32} {i : Nat} (h : 32 ≤ i) : bt x i = false := BitVec.getLsbD_of_ge _ _ h
theorem b_255 (i : Nat) : bt 255 i = decide (i < 8) := by
  rcases Nat.lt_or_ge i 32 with h | h
  · exact (by decide +kernel : ∀ i, i < 32 → bt 255 i = decide (i < 8)) i h
  · rw [b_big h, decide_eq_false (by omega)]
theorem b_65535 (i : Nat) : bt 65535 i = decide (i < 16) := by
  rcases Nat.lt_or_ge i 32 with h | h
  · exact (by decide +kernel : ∀ i, i < 32 → bt 65535 i = decide (i < 16)) i h
  · rw [b_big h, decide_eq_false (by omega)]
theorem b_m1 : ∀ i, i < 32 → bt (-1) i = true := by decide +kernel
theorem b_0 (i : Nat) : bt 0 i = false := BitVec.getLsbD_zero
theorem s_l : ∀ n, n < 32 → ((nI n &&& 31).toBitVec.smod 32).toNat = n := by decide +kernel
theorem s_u : ∀ n, n < 32 → (((nI n).toUInt32 &&& Int32.toUInt32 31).toBitVec % 32).toNat = n := by decide +kernel
theorem b_shl (n : Nat) (hn : n < 32) (x : Int32) {i : Nat} (hi : i < 32) : bt (x <<< (nI n &&& 31)) i = (decide (n ≤ i) && bt x (i - n)) := by
  unfold bt
  rw [Int32.toBitVec_shiftLeft]
  show (x.toBitVec <<< ((nI n &&& 31).toBitVec.smod 32).toNat).getLsbD i = _
  rw [s_l n hn, BitVec.getLsbD_shiftLeft]
  rcases Nat.lt_or_ge i n with h | h
  · simp [h, Nat.not_le.mpr h]
  · simp [hi, h, Nat.not_lt.mpr h]
theorem b_ushr (n : Nat) (hn : n < 32) (x : Int32) (i : Nat) : bt ((x.toUInt32 >>> ((nI n).toUInt32 &&& Int32.toUInt32 31)).toInt32) i = bt x (n + i) := by
  show (x.toUInt32 >>> ((nI n).toUInt32 &&& Int32.toUInt32 31)).toBitVec.getLsbD i = x.toUInt32.toBitVec.getLsbD (n + i)
  rw [UInt32.toBitVec_shiftRight]
  show (x.toUInt32.toBitVec >>> (((nI n).toUInt32 &&& Int32.toUInt32 31).toBitVec % 32).toNat).getLsbD i = _
  rw [s_u n hn, BitVec.getLsbD_ushiftRight]
theorem b_sshr (n : Nat) (hn : n < 32) (x : Int32) {i : Nat} (hi : i < 32) : bt (x >>> (nI n &&& 31)) i = if n + i < 32 then bt x (n + i) else bt x 31 := by
  unfold bt
  rw [Int32.toBitVec_shiftRight]
  show (x.toBitVec.sshiftRight ((nI n &&& 31).toBitVec.smod 32).toNat).getLsbD i = _
  rw [s_l n hn, BitVec.getLsbD_sshiftRight, BitVec.msb_eq_getLsbD_last]
  simp [hi]
theorem b_shl8 (x : Int32) {i : Nat} (hi : i < 32) : bt (x <<< ((8 : Int32) &&& 31)) i = (decide (8 ≤ i) && bt x (i - 8)) := b_shl 8 (by omega) x hi
theorem b_shl16 (x : Int32) {i : Nat} (hi : i < 32) : bt (x <<< ((16 : Int32) &&& 31)) i = (decide (16 ≤ i) && bt x (i - 16)) := b_shl 16 (by omega) x hi
theorem b_shl24 (x : Int32) {i : Nat} (hi : i < 32) : bt (x <<< ((24 : Int32) &&& 31)) i = (decide (24 ≤ i) && bt x (i - 24)) := b_shl 24 (by omega) x hi
theorem b_sshr8 (x : Int32) {i : Nat} (hi : i < 32) : bt (x >>> ((8 : Int32) &&& 31)) i = if 8 + i < 32 then bt x (8 + i) else bt x 31 := b_sshr 8 (by omega) x hi
end
section
/-! chains of edges among the principals below P: no print in this part -/
def dl_R (P : Nat) (e : Nat → Nat → Prop) : Nat → Nat → Nat → Prop
  | 0, a, b => a = b
  | n + 1, a, b => ∃ c, c < P ∧ dl_R P e n a c ∧ e c b
def dl_T (P : Nat) (e : Nat → Nat → Prop) (a b : Nat) : Prop := ∃ n, dl_R P e n a b
theorem dl_T0 (P : Nat) (e : Nat → Nat → Prop) (a : Nat) : dl_T P e a a := ⟨0, rfl⟩
theorem dl_Ts {P : Nat} {e : Nat → Nat → Prop} {a c b : Nat} (h : dl_T P e a c) (hc : c < P) (he : e c b) : dl_T P e a b := by
  obtain ⟨n, hn⟩ := h
  exact ⟨n + 1, c, hc, hn, he⟩
theorem dl_Tt {P : Nat} {e : Nat → Nat → Prop} {a b c : Nat} (h : dl_T P e a b) (g : dl_T P e b c) : dl_T P e a c := by
  obtain ⟨m, hm⟩ := g
  induction m generalizing c with
  | zero =>
    have z : b = c := hm
    subst z
    exact h
  | succ m ih =>
    obtain ⟨d, hd, h1, h2⟩ := hm
    exact dl_Ts (ih h1) hd h2
/-- what holds of a, and goes over every edge, holds of all that a reaches -/
theorem dl_Ti {P : Nat} {e : Nat → Nat → Prop} {a : Nat} {Q : Nat → Prop} (h0 : Q a) (hs : ∀ c b, c < P → b < P → Q c → e c b → Q b) : ∀ n b, b < P → dl_R P e n a b → Q b := by
  intro n
  induction n with
  | zero =>
    intro b _ h
    have z : a = b := h
    subst z
    exact h0
  | succ n ih =>
    intro b hb h
    obtain ⟨c, hc, h1, h2⟩ := h
    exact hs c b hc hb (ih c hc h1) h2
/-! counting below n -/
noncomputable def dl_cn (p : Nat → Prop) : Nat → Nat
  | 0 => 0
  | n + 1 => dl_cn p n + @ite Nat (p n) (Classical.propDecidable (p n)) 1 0
theorem dl_cn_t {p : Nat → Prop} {n : Nat} (h : p n) : dl_cn p (n + 1) = dl_cn p n + 1 := by
  show dl_cn p n + @ite Nat (p n) (Classical.propDecidable (p n)) 1 0 = _
  rw [if_pos h]
theorem dl_cn_f {p : Nat → Prop} {n : Nat} (h : ¬ p n) : dl_cn p (n + 1) = dl_cn p n := by
  show dl_cn p n + @ite Nat (p n) (Classical.propDecidable (p n)) 1 0 = _
  rw [if_neg h, Nat.add_zero]
theorem dl_cn_le (p : Nat → Prop) : ∀ n, dl_cn p n ≤ n := by
  intro n
  induction n with
  | zero => exact Nat.le_refl _
  | succ n ih =>
    by_cases h : p n
    · rw [dl_cn_t h]; omega
    · rw [dl_cn_f h]; omega
theorem dl_cn_m {p q : Nat → Prop} : ∀ n, (∀ x, x < n → p x → q x) → dl_cn p n ≤ dl_cn q n := by
  intro n
  induction n with
  | zero => intro _; exact Nat.le_refl _
  | succ n ih =>
    intro h
    have i1 := ih (fun x hx => h x (by omega))
    by_cases hp : p n
    · rw [dl_cn_t hp, dl_cn_t (h n (by omega) hp)]; omega
    · rw [dl_cn_f hp]
      by_cases hq : q n
      · rw [dl_cn_t hq]; omega
      · rw [dl_cn_f hq]; exact i1
theorem dl_cn_s {p q : Nat → Prop} {x : Nat} (hq : q x) (hp : ¬ p x) : ∀ n, (∀ y, y < n → p y → q y) → x < n → dl_cn p n < dl_cn q n := by
  intro n
  induction n with
  | zero => intro _ hx; omega
  | succ n ih =>
    intro h hx
    by_cases e : x = n
    · subst e
      have i1 := dl_cn_m x (fun y hy => h y (by omega))
      rw [dl_cn_f hp, dl_cn_t hq]; omega
    · have i1 := ih (fun y hy => h y (by omega)) (by omega)
      by_cases p1 : p n
      · rw [dl_cn_t p1, dl_cn_t (h n (by omega) p1)]; omega
      · rw [dl_cn_f p1]
        by_cases q1 : q n
        · rw [dl_cn_t q1]; omega
        · rw [dl_cn_f q1]; exact i1
theorem dl_cn_1 {p : Nat → Prop} {x n : Nat} (h : p x) (hx : x < n) : 1 ≤ dl_cn p n := by
  have i1 := dl_cn_s (p := fun _ => False) (q := p) h (fun z => z) n (fun _ _ z => z.elim) hx
  omega
/-- a chain among P principals need have no more than P - 1 edges -/
theorem dl_short {P : Nat} {e : Nat → Nat → Prop} {a b : Nat} (ha : a < P) (hb : b < P) (h : dl_T P e a b) : ∃ n, n < P ∧ dl_R P e n a b := by
  have key : ∀ n, n + 1 ≤ dl_cn (fun c => ∃ m, m ≤ n ∧ dl_R P e m a c) P ∨ ∃ k, k < n ∧ ∀ c d, c < P → d < P → (∃ m, m ≤ k ∧ dl_R P e m a c) → e c d → ∃ m, m ≤ k ∧ dl_R P e m a d := by
    intro n
    induction n with
    | zero => exact Or.inl (dl_cn_1 (x := a) ⟨0, Nat.le_refl _, rfl⟩ ha)
    | succ n ih =>
      rcases ih with ih | ⟨k, hk, hc⟩
      · by_cases z : ∀ c d, c < P → d < P → (∃ m, m ≤ n ∧ dl_R P e m a c) → e c d → ∃ m, m ≤ n ∧ dl_R P e m a d
        · exact Or.inr ⟨n, by omega, z⟩
        · refine Or.inl ?_
          have z2 : ∃ c d, c < P ∧ d < P ∧ (∃ m, m ≤ n ∧ dl_R P e m a c) ∧ e c d ∧ ¬ ∃ m, m ≤ n ∧ dl_R P e m a d := by
            refine Classical.byContradiction fun w => z fun c d hc hd h1 h2 => Classical.byContradiction fun w2 => w ⟨c, d, hc, hd, h1, h2, w2⟩
          obtain ⟨c, d, hc, hd, ⟨m, hm, hr⟩, h2, h3⟩ := z2
          have i1 := dl_cn_s (p := fun c => ∃ m, m ≤ n ∧ dl_R P e m a c) (q := fun c => ∃ m, m ≤ n + 1 ∧ dl_R P e m a c) (x := d) ⟨m + 1, by omega, c, hc, hr, h2⟩ h3 P (fun y _ ⟨m, hm, hr⟩ => ⟨m, by omega, hr⟩) hd
          omega
      · exact Or.inr ⟨k, by omega, hc⟩
  rcases key P with k1 | ⟨k, hk, hc⟩
  · have k2 := dl_cn_le (fun c => ∃ m, m ≤ P ∧ dl_R P e m a c) P
    omega
  · obtain ⟨n, hn⟩ := h
    obtain ⟨m, hm, hr⟩ := dl_Ti (Q := fun c => ∃ m, m ≤ k ∧ dl_R P e m a c) ⟨0, Nat.zero_le _, rfl⟩ hc n b hb hn
    exact ⟨m, by omega, hr⟩
end
section
/-! masks of principals, both closures and the effective readers; no print in this part (it wants the pasted rows bt, b_ext, b_and, b_or, b_0, b_big, b_shl, b_sshr, s_l) -/
theorem dl_1 : ∀ i, i < 32 → bt 1 i = decide (i = 0) := by decide +kernel
theorem dl_one {p i : Nat} (hp : p < 32) (hi : i < 32) : bt ((1 : Int32) <<< (nI p &&& 31)) i = decide (i = p) := by
  rw [b_shl p hp 1 hi]
  rcases Nat.lt_or_ge i p with h | h
  · rw [decide_eq_false (show ¬ p ≤ i by omega), decide_eq_false (show ¬ i = p by omega)]
    rfl
  · rw [decide_eq_true h, dl_1 (i - p) (by omega), Bool.true_and]
    by_cases e : i = p
    · rw [decide_eq_true e, decide_eq_true (show i - p = 0 by omega)]
    · rw [decide_eq_false e, decide_eq_false (show ¬ i - p = 0 by omega)]
theorem dl_bz {x : Int32} {p : Nat} (hp : p < 32) : (x &&& ((1 : Int32) <<< (nI p &&& 31))) = 0 ↔ bt x p = false := by
  constructor
  · intro h
    have t := congrArg (fun y => bt y p) h
    have t : bt (x &&& ((1 : Int32) <<< (nI p &&& 31))) p = bt 0 p := t
    rw [b_and, dl_one hp hp, b_0, decide_eq_true rfl, Bool.and_true] at t
    exact t
  · intro h
    apply b_ext
    intro i hi
    rw [b_and, dl_one hp hi, b_0]
    by_cases e : i = p
    · subst e
      rw [h, Bool.false_and]
    · rw [decide_eq_false e, Bool.and_false]
theorem dl_bs {x : Int32} {p : Nat} (hp : p < 32) : ((x >>> (nI p &&& 31)) &&& 1) = 0 ↔ bt x p = false := by
  have h0 : bt (x >>> (nI p &&& 31)) 0 = bt x p := by
    rw [b_sshr p hp x (by omega), Nat.add_zero, if_pos hp]
  constructor
  · intro h
    have t : bt ((x >>> (nI p &&& 31)) &&& 1) 0 = bt 0 0 := congrArg (fun y => bt y 0) h
    rw [b_and, h0, b_0, dl_1 0 (by omega), decide_eq_true rfl, Bool.and_true] at t
    exact t
  · intro h
    apply b_ext
    intro i hi
    rw [b_and, dl_1 i hi, b_0]
    by_cases e : i = 0
    · subst e
      rw [h0, h, Bool.false_and]
    · rw [decide_eq_false e, Bool.and_false]
theorem dl_nt {x : Bool} (h : ¬ x = false) : x = true := by cases x <;> first | rfl | exact absurd rfl h
theorem dl_nf {x : Bool} (h : ¬ x = true) : x = false := by cases x <;> first | rfl | exact absurd rfl h
theorem dl_tf {x : Bool} (h : x = true) : ¬ x = false := by rw [h]; decide
/-- the direct edges as rows of actors -/
def dl_E (D : Nat → Int32) (a b : Nat) : Prop := bt (D b) a = true
/-! the component's closure, by the middle principal -/
def dl_W (A : Nat → Int32) (m : Nat) : Nat → Int32 := fun x => if bt (A x) m = true then A x ||| A m else A x
theorem dl_Wb (A : Nat → Int32) (m x q : Nat) : bt (dl_W A m x) q = true ↔ bt (A x) q = true ∨ (bt (A x) m = true ∧ bt (A m) q = true) := by
  unfold dl_W
  by_cases h : bt (A x) m = true
  · rw [if_pos h, b_or, Bool.or_eq_true]
    exact ⟨fun z => z.elim Or.inl (fun y => Or.inr ⟨h, y⟩), fun z => z.elim Or.inl (fun y => Or.inr y.2)⟩
  · rw [if_neg h]
    exact ⟨Or.inl, fun z => z.elim (fun y => y) (fun y => absurd y.1 h)⟩
theorem dl_Wm (A : Nat → Int32) (m : Nat) : dl_W A m m = A m := by
  unfold dl_W
  by_cases h : bt (A m) m = true
  · rw [if_pos h]
    apply b_ext
    intro i _
    rw [b_or, Bool.or_self]
  · rw [if_neg h]
def dl_V (P : Nat) (D A : Nat → Int32) (m : Nat) : Prop := (∀ p, p < P → ∀ q, bt (A p) q = true → q < P ∧ dl_T P (dl_E D) q p) ∧ (∀ p, p < P → bt (A p) p = true) ∧ (∀ p, p < P → ∀ q, bt (D p) q = true → bt (A p) q = true) ∧ (∀ k, k < m → ∀ p, p < P → ∀ q, bt (A k) q = true → bt (A p) k = true → bt (A p) q = true)
theorem dl_V0 {P : Nat} {D A : Nat → Int32} (hP : P ≤ 32) (hD : ∀ p, p < P → ∀ q, bt (D p) q = true → q < P) (hA : ∀ p, p < P → A p = D p ||| ((1 : Int32) <<< (nI p &&& 31))) : dl_V P D A 0 := by
  have hb : ∀ p, p < P → ∀ q, bt (A p) q = true ↔ bt (D p) q = true ∨ q = p := by
    intro p hp q
    rcases Nat.lt_or_ge q 32 with h | h
    · rw [hA p hp, b_or, dl_one (by omega) h, Bool.or_eq_true, decide_eq_true_iff]
    · rw [b_big h, b_big h]
      exact ⟨fun z => absurd z (by decide), fun z => z.elim (fun y => absurd y (by decide)) (fun y => by omega)⟩
  refine ⟨fun p hp q hq => ?_, fun p hp => (hb p hp p).mpr (Or.inr rfl), fun p hp q hq => (hb p hp q).mpr (Or.inl hq), fun k hk => absurd hk (by omega)⟩
  rcases (hb p hp q).mp hq with h | h
  · exact ⟨hD p hp q h, dl_Ts (dl_T0 P _ q) (hD p hp q h) h⟩
  · subst h
    exact ⟨hp, dl_T0 P _ q⟩
theorem dl_Vs {P : Nat} {D A A' : Nat → Int32} {m : Nat} (hm : m < P) (V : dl_V P D A m) (hA : ∀ x, x < P → A' x = dl_W A m x) : dl_V P D A' (m + 1) := by
  obtain ⟨v1, v2, v3, v4⟩ := V
  have hb : ∀ p, p < P → ∀ q, bt (A' p) q = true ↔ bt (A p) q = true ∨ (bt (A p) m = true ∧ bt (A m) q = true) := by
    intro p hp q
    rw [hA p hp]
    exact dl_Wb A m p q
  refine ⟨fun p hp q hq => ?_, fun p hp => (hb p hp p).mpr (Or.inl (v2 p hp)), fun p hp q hq => (hb p hp q).mpr (Or.inl (v3 p hp q hq)), fun k hk p hp q h1 h2 => ?_⟩
  · rcases (hb p hp q).mp hq with h | ⟨h, h'⟩
    · exact v1 p hp q h
    · exact ⟨(v1 m hm q h').1, dl_Tt (v1 m hm q h').2 (v1 p hp m h).2⟩
  · have hk2 : k < P := by omega
    have mp : bt (A p) k = true ∨ (bt (A p) m = true ∧ bt (A m) k = true) := (hb p hp k).mp h2
    have mk : bt (A k) q = true ∨ (bt (A k) m = true ∧ bt (A m) q = true) := (hb k hk2 q).mp h1
    rcases Nat.lt_or_ge k m with h | h
    · rcases mp with a | ⟨a, b⟩
      · rcases mk with c | ⟨c, d⟩
        · exact (hb p hp q).mpr (Or.inl (v4 k h p hp q c a))
        · exact (hb p hp q).mpr (Or.inr ⟨v4 k h p hp m c a, d⟩)
      · rcases mk with c | ⟨c, d⟩
        · exact (hb p hp q).mpr (Or.inr ⟨a, v4 k h m hm q c b⟩)
        · exact (hb p hp q).mpr (Or.inr ⟨a, d⟩)
    · have e : k = m := by omega
      subst e
      have a : bt (A p) k = true := mp.elim (fun y => y) (fun y => y.1)
      have c : bt (A k) q = true := mk.elim (fun y => y) (fun y => y.2)
      exact (hb p hp q).mpr (Or.inr ⟨a, c⟩)
/-- what the component keeps of its closure -/
def dl_A (P : Nat) (D A : Nat → Int32) : Prop := ∀ p, p < P → ∀ q, bt (A p) q = true ↔ q < P ∧ dl_T P (dl_E D) q p
theorem dl_Vf {P : Nat} {D A : Nat → Int32} (V : dl_V P D A P) : dl_A P D A := by
  obtain ⟨v1, v2, v3, v4⟩ := V
  intro p hp q
  refine ⟨v1 p hp q, fun h => ?_⟩
  obtain ⟨hq, n, hn⟩ := h
  exact dl_Ti (Q := fun b => bt (A b) q = true) (v2 q hq) (fun c b hc hb h1 h2 => v4 c hc b hb q h1 (v3 b hb c h2)) n p hp hn
/-! the reference's closure: cells C (8 i + j), by rounds of one edge more -/
def dl_C (P : Nat) (e : Nat → Nat → Prop) (C : Nat → Int32) (r : Nat) : Prop := (∀ x, x < 64 → C x = 0 ∨ C x = 1) ∧ (∀ i j, i < P → j < P → ¬ C (i * 8 + j) = 0 → dl_T P e i j) ∧ (∀ m i j, m ≤ r → i < P → j < P → dl_R P e m i j → ¬ C (i * 8 + j) = 0)
def dl_Ci (P : Nat) (e : Nat → Nat → Prop) (C0 C : Nat → Int32) (t : Nat) : Prop := (∀ x, x < 64 → C x = 0 ∨ C x = 1) ∧ (∀ i j, i < P → j < P → ¬ C (i * 8 + j) = 0 → dl_T P e i j) ∧ (∀ x, ¬ C0 x = 0 → ¬ C x = 0) ∧ (∀ s, s < t → ¬ C0 (s / (P * P) * 8 + s / P % P) = 0 → e (s / P % P) (s % P) → ¬ C (s / (P * P) * 8 + s % P) = 0)
theorem dl_ix {x j M P : Nat} (hx : x < M) (hj : j < P) : x * P + j < M * P := by
  have h : (x + 1) * P ≤ M * P := Nat.mul_le_mul_right P hx
  rw [Nat.add_mul, Nat.one_mul] at h
  omega
theorem dl_dm {x j P : Nat} (hj : j < P) : (x * P + j) / P = x ∧ (x * P + j) % P = j := by
  have hp : 0 < P := by omega
  constructor
  · rw [Nat.mul_comm, Nat.mul_add_div hp, Nat.div_eq_of_lt hj, Nat.add_zero]
  · rw [Nat.mul_comm, Nat.mul_add_mod, Nat.mod_eq_of_lt hj]
theorem dl_C0 {P : Nat} {e : Nat → Nat → Prop} {C : Nat → Int32} (hP : P ≤ 8) (h1 : ∀ x, x < 64 → C x = 0 ∨ C x = 1) (h2 : ∀ i j, i < P → j < P → (¬ C (i * 8 + j) = 0 ↔ i = j ∨ e i j)) : dl_C P e C 0 := by
  refine ⟨h1, fun i j hi hj h => ?_, fun m i j hm hi hj h => ?_⟩
  · rcases (h2 i j hi hj).mp h with z | z
    · subst z
      exact dl_T0 P e i
    · exact dl_Ts (dl_T0 P e i) hi z
  · have e0 : m = 0 := by omega
    subst e0
    have z : i = j := h
    exact (h2 i j hi hj).mpr (Or.inl z)
theorem dl_Ci0 {P : Nat} {e : Nat → Nat → Prop} {C : Nat → Int32} {r : Nat} (h : dl_C P e C r) : dl_Ci P e C C 0 := ⟨h.1, h.2.1, fun _ z => z, fun s hs => absurd hs (by omega)⟩
theorem dl_Cs {P : Nat} {e : Nat → Nat → Prop} {C0 C : Nat → Int32} {r : Nat} (h : dl_C P e C0 r) (g : dl_Ci P e C0 C (P * P * P)) : dl_C P e C (r + 1) := by
  refine ⟨g.1, g.2.1, fun m i j hm hi hj hr => ?_⟩
  rcases Nat.lt_or_ge r m with h1 | h1
  · have e0 : m = r + 1 := by omega
    subst e0
    obtain ⟨c, hc, h2, h3⟩ := hr
    have h4 := h.2.2 r i c (Nat.le_refl _) hi hc h2
    have h5 := dl_ix (dl_ix hi hc) hj
    have d1 := dl_dm (x := i * P + c) hj
    have d2 := dl_dm (x := i) hc
    have d3 : ((i * P + c) * P + j) / (P * P) = i := by rw [← Nat.div_div_eq_div_mul, d1.1, d2.1]
    have h6 := g.2.2.2 ((i * P + c) * P + j) h5
    rw [d3, d1.1, d1.2, d2.2] at h6
    exact h6 h4 h3
  · exact g.2.2.1 _ (h.2.2 m i j h1 hi hj hr)
theorem dl_cell {i j a b : Nat} (hj : j < 8) (hb : b < 8) (h : i * 8 + j = a * 8 + b) : i = a ∧ j = b := by omega
/-- one turn of the inner loop -/
theorem dl_Cis {P : Nat} {e : Nat → Nat → Prop} {C0 C C' : Nat → Int32} {t : Nat} (hP : 0 < P) (hP8 : P ≤ 8) (g : dl_Ci P e C0 C t) (h : (C' = C ∧ ¬ (¬ C (t / (P * P) * 8 + t / P % P) = 0 ∧ e (t / P % P) (t % P))) ∨ (C' = upd C (t / (P * P) * 8 + t % P) 1 ∧ ¬ C (t / (P * P) * 8 + t / P % P) = 0 ∧ e (t / P % P) (t % P))) (hi : t / (P * P) < P) : dl_Ci P e C0 C' (t + 1) := by
  obtain ⟨g1, g2, g3, g4⟩ := g
  have hk : t / P % P < P := Nat.mod_lt _ hP
  have hj : t % P < P := Nat.mod_lt _ hP
  rcases h with ⟨h1, h2⟩ | ⟨h1, h2, h3⟩
  · subst h1
    refine ⟨g1, g2, g3, fun s hs a b => ?_⟩
    rcases Nat.lt_or_ge s t with z | z
    · exact g4 s z a b
    · have e0 : s = t := by omega
      subst e0
      exact absurd ⟨g3 _ a, b⟩ h2
  · subst h1
    have u : ∀ x, ¬ C x = 0 → ¬ upd C (t / (P * P) * 8 + t % P) 1 x = 0 := by
      intro x hx
      unfold upd
      split
      · decide
      · exact hx
    refine ⟨fun x hx => ?_, fun i j hi' hj' h => ?_, fun x hx => u x (g3 x hx), fun s hs a b => ?_⟩
    · unfold upd
      split
      · exact Or.inr rfl
      · exact g1 x hx
    · unfold upd at h
      split at h
      · rename_i z
        have tk := dl_Ts (g2 _ _ hi hk h2) hk h3
        obtain ⟨e1, e2⟩ := dl_cell (show j < 8 by omega) (show t % P < 8 by omega) z
        rw [e1, e2]
        exact tk
      · exact g2 i j hi' hj' h
    · rcases Nat.lt_or_ge s t with z | z
      · exact u _ (g4 s z a b)
      · have e0 : s = t := by omega
        subst e0
        unfold upd
        rw [if_pos rfl]
        decide
/-! effective readers -/
def dl_e (A : Nat → Int32) (o : Nat) (r : Int32) : Nat → Int32
  | 0 => A o
  | n + 1 => if bt r n = true then dl_e A o r n ||| A n else dl_e A o r n
theorem dl_eb (A : Nat → Int32) (o : Nat) (r : Int32) (q : Nat) : ∀ n, bt (dl_e A o r n) q = true ↔ bt (A o) q = true ∨ ∃ s, s < n ∧ bt r s = true ∧ bt (A s) q = true := by
  intro n
  induction n with
  | zero => exact ⟨Or.inl, fun h => h.elim (fun y => y) (fun ⟨s, hs, _⟩ => absurd hs (by omega))⟩
  | succ n ih =>
    show bt (if bt r n = true then dl_e A o r n ||| A n else dl_e A o r n) q = true ↔ _
    by_cases h : bt r n = true
    · rw [if_pos h, b_or, Bool.or_eq_true, ih]
      constructor
      · rintro ((z | ⟨s, h1, h2, h3⟩) | z)
        · exact Or.inl z
        · exact Or.inr ⟨s, by omega, h2, h3⟩
        · exact Or.inr ⟨n, by omega, h, z⟩
      · rintro (z | ⟨s, h1, h2, h3⟩)
        · exact Or.inl (Or.inl z)
        · rcases Nat.lt_or_ge s n with w | w
          · exact Or.inl (Or.inr ⟨s, w, h2, h3⟩)
          · have e0 : s = n := by omega
            subst e0
            exact Or.inr h3
    · rw [if_neg h, ih]
      constructor
      · rintro (z | ⟨s, h1, h2, h3⟩)
        · exact Or.inl z
        · exact Or.inr ⟨s, by omega, h2, h3⟩
      · rintro (z | ⟨s, h1, h2, h3⟩)
        · exact Or.inl z
        · rcases Nat.lt_or_ge s n with w | w
          · exact Or.inr ⟨s, w, h2, h3⟩
          · have e0 : s = n := by omega
            subst e0
            exact absurd h2 h
/-- closure cells and closure rows say the same -/
def dl_CA (P : Nat) (C A : Nat → Int32) : Prop := ∀ i j, i < P → j < P → (¬ C (i * 8 + j) = 0 ↔ bt (A j) i = true)
/-- q is an effective reader, by the reference's cells -/
def dl_in (P : Nat) (C : Nat → Int32) (o : Nat) (r : Int32) (q : Nat) : Prop := ¬ C (q * 8 + o) = 0 ∨ ∃ s, s < P ∧ bt r s = true ∧ ¬ C (q * 8 + s) = 0
theorem dl_in_e {P : Nat} {C A : Nat → Int32} {o q : Nat} {r : Int32} (h : dl_CA P C A) (ho : o < P) (hq : q < P) : dl_in P C o r q ↔ bt (dl_e A o r P) q = true := by
  rw [dl_eb]
  unfold dl_in
  rw [h q o hq ho]
  constructor
  · rintro (z | ⟨s, h1, h2, h3⟩)
    · exact Or.inl z
    · exact Or.inr ⟨s, h1, h2, (h q s hq h1).mp h3⟩
  · rintro (z | ⟨s, h1, h2, h3⟩)
    · exact Or.inl z
    · exact Or.inr ⟨s, h1, h2, (h q s hq h1).mpr h3⟩
theorem dl_e_P {P : Nat} {D A : Nat → Int32} {o q : Nat} {r : Int32} (h : dl_A P D A) (ho : o < P) (hb : bt (dl_e A o r P) q = true) : q < P := by
  rcases (dl_eb A o r q P).mp hb with z | ⟨s, h1, h2, h3⟩
  · exact ((h o ho q).mp z).1
  · exact ((h s h1 q).mp h3).1
/-- the mask that the reference builds is the component's -/
theorem dl_mask {P : Nat} {D C A : Nat → Int32} {o : Nat} {r m : Int32} (hA : dl_A P D A) (h : dl_CA P C A) (ho : o < P) (hm : ∀ i, i < 32 → (bt m i = true ↔ i < P ∧ dl_in P C o r i)) : m = dl_e A o r P := by
  apply b_ext
  intro i hi
  by_cases z : bt (dl_e A o r P) i = true
  · have hp := dl_e_P hA ho z
    rw [z, (hm i hi).mpr ⟨hp, (dl_in_e h ho hp).mpr z⟩]
  · rw [dl_nf z, dl_nf (fun w => z ((dl_in_e h ho ((hm i hi).mp w).1).mp ((hm i hi).mp w).2))]
end
section
/-! the component's private methods, each with a general post -/
section
variable {xP xC xA xL xO xQ xS xK : Int32} {dA aA po st jm pl op el so ip va ov oc : Nat → Int32}
def dl_zn (f : Nat → Int32) : Nat → (Nat → Int32)
  | 0 => f
  | n + 1 => upd (dl_zn f n) n 0
/-- the first n cells by f, the others by g -/
def dl_row (f g : Nat → Int32) (n : Nat) : Nat → Int32 := fun x => if x < n then f x else g x
theorem dl_row_0 (f g : Nat → Int32) : dl_row f g 0 = g := by
  funext x
  exact if_neg (by omega)
theorem dl_row_s {f g : Nat → Int32} {n : Nat} {z : Int32} (h : z = f n) : upd (dl_row f g n) n z = dl_row f g (n + 1) := by
  funext x
  unfold upd dl_row
  by_cases e : x = n
  · subst e
    rw [if_pos rfl, if_pos (by omega), h]
  · rw [if_neg e]
    by_cases l : x < n
    · rw [if_pos l, if_pos (by omega)]
    · rw [if_neg l, if_neg (by omega)]
theorem dl_row_k {f g : Nat → Int32} {n : Nat} (h : g n = f n) : dl_row f g n = dl_row f g (n + 1) := by
  funext x
  unfold dl_row
  by_cases l : x < n
  · rw [if_pos l, if_pos (by omega)]
  · rw [if_neg l]
    by_cases e : x = n
    · subst e
      rw [if_pos (by omega), h]
    · rw [if_neg (by omega)]
theorem dl_row_n (f g : Nat → Int32) (n : Nat) : dl_row f g n n = g n := if_neg (by omega)
theorem dl_row_l {f g : Nat → Int32} {n x : Nat} (h : x < n) : dl_row f g n x = f x := if_pos h
theorem dl_m8 (a b : Nat) : nI a * 8 + nI b = nI (a * 8 + b) := by
  rw [← nI_add, ← pk_mul]
  rfl
theorem dl_m16 (a b : Nat) : nI a * 16 + nI b = nI (a * 16 + b) := by
  rw [← nI_add, ← pk_mul]
  rfl
theorem dl_m4 (a : Nat) : nI a * 4 = nI (a * 4) := by
  rw [← pk_mul]
  rfl
theorem dl_c {n : Nat} (h : n < 2 ^ 31) : (nI n).toNatClampNeg = n := nI_clamp h
theorem dx_contains {post : Int32 → Prop} {x : Int32} {p : Nat} (hp : p < 32) (h1 : bt x p = true → post 1) (h0 : bt x p = false → post 0) : wpX_contains post () x (nI p) := br_c (fun h => h0 ((dl_bz hp).mp h)) (fun h => h1 (dl_nt (fun w => h ((dl_bz hp).mpr w))))
theorem dx_empty {post : St2 → Prop} (h : post (xP, xC, xA, xL, xO, xQ, xS, xK, dA, aA, po, st, jm, pl, op, el, so, ip, va, ov, dl_zn oc 4)) : wpX_emptyChannels post (xP, xC, xA, xL, xO, xQ, xS, xK, dA, aA, po, st, jm, pl, op, el, so, ip, va, ov, oc) := by
  refine loop_0 (fun n i a => wX_emptyChannels_2 post xP xC xA xL xO xQ xS xK n (nI i) dA aA po st jm pl op el so ip va ov a) (fun i a => a = dl_zn oc i) 4 oc rfl ?_ ?_
  · intro n a ha
    subst ha
    exact br_t (nI_le (a := 4) (b := 4) (by omega) (by omega)) h
  · intro n i a hi ha ih
    subst ha
    refine br_f (nI_ge (b := 4) hi (by omega)) ⟨vp_in_nI hi (by omega), nm_r (e' := dl_zn oc (i + 1)) ?_ (nm_r (nI_1 i) (ih _ rfl))⟩
    rw [dl_c (by omega)]
    rfl
theorem dx_reset {post : St2 → Prop} (h : post (xP, xC, xA, xL, xO, 0, 0, -1, dA, aA, po, st, jm, pl, op, el, so, ip, va, ov, dl_zn oc 4)) : wpX_reset post (xP, xC, xA, xL, xO, xQ, xS, xK, dA, aA, po, st, jm, pl, op, el, so, ip, va, ov, oc) := by
  unfold wpX_reset
  exact dx_empty h
theorem dl_Wa {A0 a : Nat → Int32} {m i : Nat} (ha : ∀ x, a x = if x < i then dl_W A0 m x else A0 x) : a i = A0 i ∧ a m = A0 m := by
  refine ⟨by rw [ha i, if_neg (by omega)], ?_⟩
  rw [ha m]
  by_cases h : m < i
  · rw [if_pos h, dl_Wm]
  · rw [if_neg h]
theorem dx_c44 {post : St2 → Prop} {J : Int32 → (Nat → Int32) → (Nat → Int32) → (Nat → Int32) → (Nat → Int32) → (Nat → Int32) → (Nat → Int32) → (Nat → Int32) → (Nat → Int32) → (Nat → Int32) → (Nat → Int32) → (Nat → Int32) → (Nat → Int32) → (Nat → Int32) → Prop} {P m : Nat} (hP : P ≤ 8) (hm : m < P) (h : ∀ A', (∀ x, x < P → A' x = dl_W aA m x) → J (nI (m + 1)) dA A' po st jm pl op el so ip va ov oc) : ∃ n, wX_closeActors_44 post J (nI m) (nI P) xC xA xL xO xQ xS xK n 0 dA aA po st jm pl op el so ip va ov oc := by
  refine loop_0 (fun n i a => wX_closeActors_44 post J (nI m) (nI P) xC xA xL xO xQ xS xK n (nI i) dA a po st jm pl op el so ip va ov oc) (fun i a => ∀ x, a x = if x < i then dl_W aA m x else aA x) P aA ?_ ?_ ?_
  · intro x
    exact (if_neg (by omega)).symm
  · intro n a ha
    exact br_t (nI_le (Nat.le_refl _) (by omega)) (nm_r (nI_1 m) (h a (fun x hx => (ha x).trans (if_pos hx))))
  · intro n i a hi ha ih
    obtain ⟨e1, e2⟩ := dl_Wa ha
    have v : vp_in (nI i) 8 := vp_in_nI (by omega) (by omega)
    refine br_f (nI_ge hi (by omega)) ⟨v, ?_⟩
    rw [dl_c (show i < 2 ^ 31 by omega), dl_c (show m < 2 ^ 31 by omega), e1, e2]
    refine dx_contains (by omega) (fun hb => ?_) (fun hb => ?_)
    · refine br_f (by decide) ⟨v, vp_in_nI (by omega) (by omega), v, nm_e (nm_r (nI_1 i) (ih _ ?_))⟩
      intro x
      by_cases e : x = i
      · subst e
        rw [pk_us, if_pos (by omega)]
        exact (if_pos hb).symm
      · rw [pk_un e, ha x]
        by_cases l : x < i
        · rw [if_pos l, if_pos (by omega)]
        · rw [if_neg l, if_neg (by omega)]
    · refine br_t rfl (nm_r (nI_1 i) (ih _ ?_))
      intro x
      rw [ha x]
      by_cases e : x = i
      · subst e
        rw [if_neg (by omega), if_pos (by omega)]
        exact (if_neg (by rw [hb]; decide)).symm
      · by_cases l : x < i
        · rw [if_pos l, if_pos (by omega)]
        · rw [if_neg l, if_neg (by omega)]
theorem dx_c34 {post : St2 → Prop} {P : Nat} (hP : P ≤ 8) (h : ∀ A', dl_A P dA A' → post (nI P, xC, xA, xL, xO, xQ, xS, xK, dA, A', po, st, jm, pl, op, el, so, ip, va, ov, oc)) (V : dl_V P dA aA 0) : ∃ n, wX_closeActors_34 post (nI P) xC xA xL xO xQ xS xK n 0 dA aA po st jm pl op el so ip va ov oc := by
  refine loop_0 (fun n m a => wX_closeActors_34 post (nI P) xC xA xL xO xQ xS xK n (nI m) dA a po st jm pl op el so ip va ov oc) (fun m a => dl_V P dA a m) P aA V ?_ ?_
  · intro n a ha
    exact br_t (nI_le (Nat.le_refl _) (by omega)) (h a (dl_Vf ha))
  · intro n m a hm V ih
    exact br_f (nI_ge hm (by omega)) (dx_c44 hP hm (fun A' hA => ih A' (dl_Vs hm V hA)))
theorem dx_close {post : St2 → Prop} {P : Nat} (hP : P ≤ 8) (hD : ∀ p, p < P → ∀ q, bt (dA p) q = true → q < P) (h : ∀ A', dl_A P dA A' → post (nI P, xC, xA, xL, xO, xQ, xS, xK, dA, A', po, st, jm, pl, op, el, so, ip, va, ov, oc)) : wpX_closeActors post (nI P, xC, xA, xL, xO, xQ, xS, xK, dA, aA, po, st, jm, pl, op, el, so, ip, va, ov, oc) := by
  refine loop_0 (fun n i a => wX_closeActors_2 post (nI P) xC xA xL xO xQ xS xK n (nI i) dA a po st jm pl op el so ip va ov oc) (fun i a => ∀ x, x < i → a x = dA x ||| ((1 : Int32) <<< (nI x &&& 31))) P aA (fun x hx => absurd hx (by omega)) ?_ ?_
  · intro n a ha
    exact br_t (nI_le (Nat.le_refl _) (by omega)) (dx_c34 hP h (dl_V0 (by omega) hD ha))
  · intro n i a hi ha ih
    have v : vp_in (nI i) 8 := vp_in_nI (by omega) (by omega)
    refine br_f (nI_ge hi (by omega)) ⟨v, v, nm_e (nm_r (nI_1 i) (ih _ ?_))⟩
    rw [dl_c (show i < 2 ^ 31 by omega)]
    intro x hx
    by_cases e : x = i
    · subst e
      rw [pk_us]
    · rw [pk_un e]
      exact ha x (by omega)
theorem dx_eff {post : Int32 → Prop} {P o : Nat} {r : Int32} (hP : P ≤ 8) (ho : o < P) (h : post (dl_e aA o r P)) : wpX_effectiveReaders post (nI P, xC, xA, xL, xO, xQ, xS, xK, dA, aA, po, st, jm, pl, op, el, so, ip, va, ov, oc) (nI o) r := by
  unfold wpX_effectiveReaders
  refine ⟨vp_in_nI (by omega) (by omega), nm_r (e' := dl_e aA o r 0) (by rw [dl_c (by omega)]; rfl) ?_⟩
  refine loop_0 (fun n i s => wX_effectiveReaders_10 post r (nI P) xC xA xL xO xQ xS xK dA aA po st jm pl op el so ip va ov oc n s (nI i)) (fun i s => s = dl_e aA o r i) P _ rfl ?_ ?_
  · intro n s hs
    subst hs
    exact br_t (nI_le (Nat.le_refl _) (by omega)) h
  · intro n i s hi hs ih
    subst hs
    refine br_f (nI_ge hi (by omega)) (br_c (fun hb => ?_) (fun hb => ?_))
    · refine nm_r (nI_1 i) (ih _ ?_)
      exact (if_neg (by rw [(dl_bz (by omega)).mp hb]; decide)).symm
    · refine ⟨vp_in_nI (by omega) (by omega), nm_e (nm_r (nI_1 i) (ih _ ?_))⟩
      rw [dl_c (show i < 2 ^ 31 by omega)]
      exact (if_pos (dl_nt (fun w => hb ((dl_bz (by omega)).mpr w)))).symm
/-! reading and flowing: one pure meaning, for both sides -/
def dl_rd (P : Nat) (A po : Nat → Int32) (t p : Nat) : Prop := ∀ o, o < P → ¬ po (t * 8 + o) = -1 → bt (dl_e A o (po (t * 8 + o)) P) p = true
def dl_kp (P : Nat) (A po : Nat → Int32) (t o : Nat) (r : Int32) : Prop := ∃ k, k < P ∧ ¬ po (t * 8 + k) = -1 ∧ bt (A o) k = true ∧ (dl_e A k (po (t * 8 + k)) P &&& (dl_e A o r P ^^^ (-1))) = 0
def dl_fl (P : Nat) (A po so : Nat → Int32) (t : Nat) (d : Int32) : Prop := ∀ o, o < P → ¬ so o = -1 → (A o &&& d) = 0 → dl_kp P A po t o (so o)
theorem dx_rd {post : Int32 → Prop} {P t p : Nat} (hP : P ≤ 8) (ht : t < 20) (hp : p < P) (h1 : dl_rd P aA po t p → post 1) (h0 : ¬ dl_rd P aA po t p → post 0) : ∃ n, wX_canRead_19 post (nI p) (nI t) (nI P) xC xA xL xO xQ xS xK dA aA po st jm pl op el so ip va ov oc n 0 := by
  refine loop_0 (fun n i (_ : Unit) => wX_canRead_19 post (nI p) (nI t) (nI P) xC xA xL xO xQ xS xK dA aA po st jm pl op el so ip va ov oc n (nI i)) (fun i _ => ∀ o, o < i → ¬ po (t * 8 + o) = -1 → bt (dl_e aA o (po (t * 8 + o)) P) p = true) P () (fun o ho => absurd ho (by omega)) ?_ ?_
  · intro n _ ha
    exact br_t (nI_le (Nat.le_refl _) (by omega)) (h1 ha)
  · intro n i _ hi ha ih
    have nx : ∀ z : ¬ po (t * 8 + i) = -1 → bt (dl_e aA i (po (t * 8 + i)) P) p = true, ∀ o, o < i + 1 → ¬ po (t * 8 + o) = -1 → bt (dl_e aA o (po (t * 8 + o)) P) p = true := by
      intro z o ho
      by_cases e : o = i
      · subst e
        exact z
      · exact ha o (by omega)
    refine br_f (nI_ge hi (by omega)) ?_
    unfold wpX_cell
    rw [dl_m8]
    dsimp only
    rw [dl_c (show t * 8 + i < 2 ^ 31 by omega)]
    refine ⟨vp_in_nI (by omega) (by omega), nm_e (br_c (fun z => nm_r (nI_1 i) (ih () (nx (fun w => absurd z w)))) (fun z => dx_eff hP hi (dx_contains (by omega) (fun hb => br_f (by decide) (nm_r (nI_1 i) (ih () (nx (fun _ => hb))))) (fun hb => br_t rfl (h0 (fun w => ?_))))))⟩
    rw [w i hi z] at hb
    exact absurd hb (by decide)
theorem dx_keeps {post : Int32 → Prop} {P t o : Nat} {r : Int32} (hP : P ≤ 8) (ht : t < 20) (ho : o < P) (h1 : dl_kp P aA po t o r → post 1) (h0 : ¬ dl_kp P aA po t o r → post 0) : wpX_keepsPolicy post (nI P, xC, xA, xL, xO, xQ, xS, xK, dA, aA, po, st, jm, pl, op, el, so, ip, va, ov, oc) (nI t) (nI o) r := by
  unfold wpX_keepsPolicy
  refine dx_eff hP ho ?_
  refine loop_0 (fun n i (_ : Unit) => wX_keepsPolicy_11 post (nI t) (nI o) (dl_e aA o r P) (nI P) xC xA xL xO xQ xS xK dA aA po st jm pl op el so ip va ov oc n (nI i)) (fun i _ => ∀ k, k < i → ¬ (¬ po (t * 8 + k) = -1 ∧ bt (aA o) k = true ∧ (dl_e aA k (po (t * 8 + k)) P &&& (dl_e aA o r P ^^^ (-1))) = 0)) P () (fun o ho => absurd ho (by omega)) ?_ ?_
  · intro n _ ha
    exact br_t (nI_le (Nat.le_refl _) (by omega)) (h0 (fun ⟨k, hk, w⟩ => ha k hk w))
  · intro n i _ hi ha ih
    have nx : ¬ (¬ po (t * 8 + i) = -1 ∧ bt (aA o) i = true ∧ (dl_e aA i (po (t * 8 + i)) P &&& (dl_e aA o r P ^^^ (-1))) = 0) → wX_keepsPolicy_11 post (nI t) (nI o) (dl_e aA o r P) (nI P) xC xA xL xO xQ xS xK dA aA po st jm pl op el so ip va ov oc n (nI (i + 1)) := by
      intro z
      refine ih () (fun k hk => ?_)
      by_cases e : k = i
      · subst e
        exact z
      · exact ha k (by omega)
    refine br_f (nI_ge hi (by omega)) ?_
    unfold wpX_cell
    rw [dl_m8]
    dsimp only
    rw [dl_c (show t * 8 + i < 2 ^ 31 by omega), dl_c (show o < 2 ^ 31 by omega)]
    refine ⟨vp_in_nI (by omega) (by omega), nm_e (br_c (fun z => nm_r (nI_1 i) (nx (fun w => w.1 z))) (fun z => ⟨vp_in_nI (by omega) (by omega), dx_contains (by omega) (fun hb => br_f (by decide) (dx_eff hP hi (br_c (fun y => h1 ⟨i, hi, z, hb, y⟩) (fun y => nm_r (nI_1 i) (nx (fun w => y w.2.2)))))) (fun hb => br_t rfl (nm_r (nI_1 i) (nx (fun w => by rw [hb] at w; exact absurd w.2.1 (by decide)))))⟩))⟩
theorem dx_flows {post : Int32 → Prop} {P t : Nat} {d : Int32} (hP : P ≤ 8) (ht : t < 20) (h1 : dl_fl P aA po so t d → post 1) (h0 : ¬ dl_fl P aA po so t d → post 0) : wpX_flowsTo post (nI P, xC, xA, xL, xO, xQ, xS, xK, dA, aA, po, st, jm, pl, op, el, so, ip, va, ov, oc) (nI t) d := by
  refine loop_0 (fun n i (_ : Unit) => wX_flowsTo_2 post (nI t) d (nI P) xC xA xL xO xQ xS xK dA aA po st jm pl op el so ip va ov oc n (nI i)) (fun i _ => ∀ o, o < i → ¬ so o = -1 → (aA o &&& d) = 0 → dl_kp P aA po t o (so o)) P () (fun o ho => absurd ho (by omega)) ?_ ?_
  · intro n _ ha
    exact br_t (nI_le (Nat.le_refl _) (by omega)) (h1 ha)
  · intro n i _ hi ha ih
    have v : vp_in (nI i) 8 := vp_in_nI (by omega) (by omega)
    have nx : (¬ so i = -1 → (aA i &&& d) = 0 → dl_kp P aA po t i (so i)) → wX_flowsTo_2 post (nI t) d (nI P) xC xA xL xO xQ xS xK dA aA po st jm pl op el so ip va ov oc n (nI (i + 1)) := by
      intro z
      refine ih () (fun k hk => ?_)
      by_cases e : k = i
      · subst e
        exact z
      · exact ha k (by omega)
    have c := dl_c (show i < 2 ^ 31 by omega)
    refine br_f (nI_ge hi (by omega)) ⟨v, ?_⟩
    rw [c]
    refine br_c (fun z => ?_) (fun z => ⟨v, br_c (fun y => ?_) (fun y => ?_)⟩)
    · exact br_t rfl (nm_r (nI_1 i) (nx (fun w => absurd z w)))
    · refine br_f (by decide) ⟨v, ?_⟩
      rw [c]
      exact dx_keeps hP ht hi (fun k => br_f (by decide) (nm_r (nI_1 i) (nx (fun _ _ => k)))) (fun k => br_t rfl (h0 (fun w => k (w i hi z y))))
    · exact br_t rfl (nm_r (nI_1 i) (nx (fun _ w => absurd w y)))
/-! rows of labels -/
/-- the source row: the pc, the pc joined with a target, a target, the pc joined with two targets -/
def dl_S1 (pl so : Nat → Int32) (D : Nat) : Nat → Int32 := dl_row (fun o => pl (D * 8 + o)) so 8
def dl_St (po so : Nat → Int32) (t : Nat) : Nat → Int32 := dl_row (fun o => po (t * 8 + o)) so 8
def dl_Sj (po so : Nat → Int32) (t : Nat) : Nat → Int32 := dl_row (fun o => so o &&& po (t * 8 + o)) so 8
def dl_S2 (pl po so : Nat → Int32) (D t : Nat) : Nat → Int32 := dl_Sj po (dl_S1 pl so D) t
theorem dx_takePc {post : St2 → Prop} {D : Nat} (hD : D ≤ 8) (h : post (xP, xC, xA, xL, nI D, xQ, xS, xK, dA, aA, po, st, jm, pl, op, el, dl_S1 pl so D, ip, va, ov, oc)) : wpX_takePc post (xP, xC, xA, xL, nI D, xQ, xS, xK, dA, aA, po, st, jm, pl, op, el, so, ip, va, ov, oc) := by
  refine loop_0 (fun n i a => wX_takePc_2 post xP xC xA xL (nI D) xQ xS xK n (nI i) dA aA po st jm pl op el a ip va ov oc) (fun i a => a = dl_row (fun o => pl (D * 8 + o)) so i) 8 so (dl_row_0 _ _).symm ?_ ?_
  · intro n a ha
    subst ha
    exact br_t (nI_le (a := 8) (b := 8) (by omega) (by omega)) h
  · intro n i a hi ha ih
    subst ha
    refine br_f (nI_ge (b := 8) hi (by omega)) ?_
    unfold wpX_cell
    rw [dl_m8]
    dsimp only
    rw [dl_c (show D * 8 + i < 2 ^ 31 by omega), dl_c (show i < 2 ^ 31 by omega)]
    exact ⟨vp_in_nI (by omega) (by omega), vp_in_nI (by omega) (by omega), nm_e (nm_r (nI_1 i) (ih _ (dl_row_s rfl)))⟩
theorem dx_takeT {post : St2 → Prop} {t : Nat} (ht : t < 20) (h : post (xP, xC, xA, xL, xO, xQ, xS, xK, dA, aA, po, st, jm, pl, op, el, dl_St po so t, ip, va, ov, oc)) : wpX_takeTarget post (xP, xC, xA, xL, xO, xQ, xS, xK, dA, aA, po, st, jm, pl, op, el, so, ip, va, ov, oc) (nI t) := by
  refine loop_0 (fun n i a => wX_takeTarget_2 post (nI t) xP xC xA xL xO xQ xS xK n (nI i) dA aA po st jm pl op el a ip va ov oc) (fun i a => a = dl_row (fun o => po (t * 8 + o)) so i) 8 so (dl_row_0 _ _).symm ?_ ?_
  · intro n a ha
    subst ha
    exact br_t (nI_le (a := 8) (b := 8) (by omega) (by omega)) h
  · intro n i a hi ha ih
    subst ha
    refine br_f (nI_ge (b := 8) hi (by omega)) ?_
    unfold wpX_cell
    rw [dl_m8]
    dsimp only
    rw [dl_c (show t * 8 + i < 2 ^ 31 by omega), dl_c (show i < 2 ^ 31 by omega)]
    exact ⟨vp_in_nI (by omega) (by omega), vp_in_nI (by omega) (by omega), nm_e (nm_r (nI_1 i) (ih _ (dl_row_s rfl)))⟩
theorem dx_join {post : St2 → Prop} {t : Nat} (ht : t < 20) (h : post (xP, xC, xA, xL, xO, xQ, xS, xK, dA, aA, po, st, jm, pl, op, el, dl_Sj po so t, ip, va, ov, oc)) : wpX_joinTarget post (xP, xC, xA, xL, xO, xQ, xS, xK, dA, aA, po, st, jm, pl, op, el, so, ip, va, ov, oc) (nI t) := by
  refine loop_0 (fun n i a => wX_joinTarget_2 post (nI t) xP xC xA xL xO xQ xS xK n (nI i) dA aA po st jm pl op el a ip va ov oc) (fun i a => a = dl_row (fun o => so o &&& po (t * 8 + o)) so i) 8 so (dl_row_0 _ _).symm ?_ ?_
  · intro n a ha
    subst ha
    exact br_t (nI_le (a := 8) (b := 8) (by omega) (by omega)) h
  · intro n i a hi ha ih
    subst ha
    refine br_f (nI_ge (b := 8) hi (by omega)) ⟨vp_in_nI hi (by omega), ?_⟩
    unfold wpX_cell
    rw [dl_m8]
    dsimp only
    rw [dl_c (show t * 8 + i < 2 ^ 31 by omega), dl_c (show i < 2 ^ 31 by omega), dl_row_n]
    exact ⟨vp_in_nI (by omega) (by omega), vp_in_nI (by omega) (by omega), nm_e (nm_r (nI_1 i) (ih _ (dl_row_s rfl)))⟩
/-! blocks -/
def dl_seg (f g : Nat → Int32) (b n : Nat) : Nat → Int32 := fun x => if b ≤ x ∧ x < b + n then f (x - b) else g x
theorem dl_seg_0 (f g : Nat → Int32) (b : Nat) : dl_seg f g b 0 = g := by
  funext x
  exact if_neg (by omega)
theorem dl_seg_s {f g : Nat → Int32} {b n : Nat} {z : Int32} (h : z = f n) : upd (dl_seg f g b n) (b + n) z = dl_seg f g b (n + 1) := by
  funext x
  unfold upd dl_seg
  by_cases e : x = b + n
  · subst e
    rw [if_pos rfl, if_pos (by omega), h, Nat.add_sub_cancel_left]
  · rw [if_neg e]
    by_cases l : b ≤ x ∧ x < b + n
    · rw [if_pos l, if_pos (by omega)]
    · rw [if_neg l, if_neg (by omega)]
theorem dl_seg_i {f g : Nat → Int32} {b n x : Nat} (h : x < n) : dl_seg f g b n (b + x) = f x := by
  unfold dl_seg
  rw [if_pos (by omega), Nat.add_sub_cancel_left]
theorem dl_seg_o {f g : Nat → Int32} {b n x : Nat} (h : x < b) : dl_seg f g b n x = g x := if_neg (by omega)
theorem dx_open {post : Int32 → St2 → Prop} {D t i : Nat} (hD : D < 8) (ht : t < 20) (h : post 0 (xP, xC, xA, xL, nI (D + 1), xQ, xS, xK, dA, aA, po, st, jm, dl_seg (dl_S2 pl po so D t) pl ((D + 1) * 8) 8, upd op D (nI i), upd el D (-1), dl_S2 pl po so D t, ip, va, ov, oc)) : wpX_openBlock post (xP, xC, xA, xL, nI D, xQ, xS, xK, dA, aA, po, st, jm, pl, op, el, so, ip, va, ov, oc) (nI i) (nI t) := by
  unfold wpX_openBlock
  refine br_t (nI_lt (b := 8) hD (by omega)) (dx_takePc (by omega) (dx_join ht ?_))
  have c := dl_c (show D < 2 ^ 31 by omega)
  refine ⟨vp_in_nI hD (by omega), nm_r (e' := upd op D (nI i)) (by rw [c]) ⟨vp_in_nI hD (by omega), nm_r (e' := upd el D (-1)) (by rw [c]) (nm_r (nI_1 D) ?_)⟩⟩
  refine loop_0 (fun n k a => wX_openBlock_52 post xP xC xA xL (nI (D + 1)) xQ xS xK n (nI k) dA aA po st jm a (upd op D (nI i)) (upd el D (-1)) (dl_S2 pl po so D t) ip va ov oc) (fun k a => a = dl_seg (dl_S2 pl po so D t) pl ((D + 1) * 8) k) 8 pl (dl_seg_0 _ _ _).symm ?_ ?_
  · intro n a ha
    subst ha
    exact br_t (nI_le (a := 8) (b := 8) (by omega) (by omega)) h
  · intro n k a hk ha ih
    subst ha
    refine br_f (nI_ge (b := 8) hk (by omega)) ?_
    unfold wpX_cell
    rw [dl_m8]
    dsimp only
    rw [dl_c (show (D + 1) * 8 + k < 2 ^ 31 by omega), dl_c (show k < 2 ^ 31 by omega)]
    exact ⟨vp_in_nI (by omega) (by omega), vp_in_nI (by omega) (by omega), nm_e (nm_r (nI_1 k) (ih _ (dl_seg_s rfl)))⟩
theorem dx_open8 {post : Int32 → St2 → Prop} {D t i : Nat} (hD : 8 ≤ D) (hD2 : D < 2 ^ 31) (h : post 2 (xP, xC, xA, xL, nI D, xQ, xS, xK, dA, aA, po, st, jm, pl, op, el, so, ip, va, ov, oc)) : wpX_openBlock post (xP, xC, xA, xL, nI D, xQ, xS, xK, dA, aA, po, st, jm, pl, op, el, so, ip, va, ov, oc) (nI i) (nI t) := by
  unfold wpX_openBlock
  exact br_f (nI_nlt (b := 8) hD hD2) h
theorem dx_isWhile {post : Int32 → Prop} {i : Nat} (hi : i < 64) (h1 : st (i * 4) = 11 → post 1) (h0 : ¬ st (i * 4) = 11 → post 0) : wpX_isWhile post (xP, xC, xA, xL, xO, xQ, xS, xK, dA, aA, po, st, jm, pl, op, el, so, ip, va, ov, oc) (nI i) := by
  unfold wpX_isWhile
  rw [dl_m4, dl_c (show i * 4 < 2 ^ 31 by omega)]
  exact ⟨vp_in_nI (by omega) (by omega), br_c h1 h0⟩
theorem dx_split0 {post : Int32 → St2 → Prop} {i : Nat} (h : post 1 (xP, xC, xA, xL, nI 0, xQ, xS, xK, dA, aA, po, st, jm, pl, op, el, so, ip, va, ov, oc)) : wpX_splitBlock post (xP, xC, xA, xL, nI 0, xQ, xS, xK, dA, aA, po, st, jm, pl, op, el, so, ip, va, ov, oc) (nI i) := by
  unfold wpX_splitBlock
  exact br_t nI_0 h
theorem dx_split {post : Int32 → St2 → Prop} {D o i : Nat} (hD : D < 8) (ho : op D = nI o) (ho64 : o < 64) (h1 : (st (o * 4) = 11 ∨ ¬ el D = -1) → post 1 (xP, xC, xA, xL, nI (D + 1), xQ, xS, xK, dA, aA, po, st, jm, pl, op, el, so, ip, va, ov, oc)) (h0 : ¬ st (o * 4) = 11 → el D = -1 → post 0 (xP, xC, xA, xL, nI (D + 1), xQ, xS, xK, dA, aA, po, st, jm, pl, op, upd el D (nI i), so, ip, va, ov, oc)) : wpX_splitBlock post (xP, xC, xA, xL, nI (D + 1), xQ, xS, xK, dA, aA, po, st, jm, pl, op, el, so, ip, va, ov, oc) (nI i) := by
  unfold wpX_splitBlock
  have v : vp_in (nI D) 8 := vp_in_nI hD (by omega)
  refine br_f (nI_ne0 (by omega) (by omega)) (nm_r (nI_pred D) ⟨v, ?_⟩)
  rw [dl_c (show D < 2 ^ 31 by omega), ho]
  exact dx_isWhile ho64 (fun z => br_f (by decide) (h1 (Or.inl z))) (fun z => br_t rfl ⟨v, br_c (fun y => ⟨v, nm_e (h0 z y)⟩) (fun y => h1 (Or.inr y))⟩)
theorem dx_clb0 {post : Int32 → St2 → Prop} {i : Nat} (h : post 1 (xP, xC, xA, xL, nI 0, xQ, xS, xK, dA, aA, po, st, jm, pl, op, el, so, ip, va, ov, oc)) : wpX_closeBlock post (xP, xC, xA, xL, nI 0, xQ, xS, xK, dA, aA, po, st, jm, pl, op, el, so, ip, va, ov, oc) (nI i) := by
  unfold wpX_closeBlock
  exact br_t nI_0 h
/-- the jumps that closing a block writes -/
def dl_j1 (jm : Nat → Int32) (o i : Nat) (z : Int32) : Nat → Int32 := upd (upd jm o (nI (i + 1))) i z
def dl_j2 (jm : Nat → Int32) (o m i : Nat) (z : Int32) : Nat → Int32 := upd (upd (dl_j1 jm o i z) o (nI (m + 1))) m (nI (i + 1))
theorem dx_clb {post : Int32 → St2 → Prop} {D o i : Nat} (hD : D < 8) (hi : i < 64) (ho : op D = nI o) (ho64 : o < 64) (h : el D = -1 → post 0 (xP, xC, xA, xL, nI D, xQ, xS, xK, dA, aA, po, st, dl_j1 jm o i (if st (o * 4) = 11 then nI o else nI (i + 1)), pl, op, el, so, ip, va, ov, oc)) (hm : ∀ m, m < 64 → el D = nI m → post 0 (xP, xC, xA, xL, nI D, xQ, xS, xK, dA, aA, po, st, dl_j2 jm o m i (if st (o * 4) = 11 then nI o else nI (i + 1)), pl, op, el, so, ip, va, ov, oc)) (he : el D = -1 ∨ ∃ m, m < 64 ∧ el D = nI m) : wpX_closeBlock post (xP, xC, xA, xL, nI (D + 1), xQ, xS, xK, dA, aA, po, st, jm, pl, op, el, so, ip, va, ov, oc) (nI i) := by
  unfold wpX_closeBlock
  have v : vp_in (nI D) 8 := vp_in_nI hD (by omega)
  have cD := dl_c (show D < 2 ^ 31 by omega)
  have co := dl_c (show o < 2 ^ 31 by omega)
  have ci := dl_c (show i < 2 ^ 31 by omega)
  refine br_f (nI_ne0 (by omega) (by omega)) (nm_r (nI_pred D) ⟨v, nm_r (e' := nI o) (by rw [cD]; exact ho) ⟨v, nm_r (e' := el D) (by rw [cD]) (nm_r (nI_1 i) ⟨vp_in_nI ho64 (by omega), nm_r (e' := upd jm o (nI (i + 1))) (by rw [co]) ?_⟩)⟩⟩)
  have fin : ∀ z : Int32, z = (if st (o * 4) = 11 then nI o else nI (i + 1)) → wX_closeBlock_71 post (nI o) (el D) (nI (i + 1)) z (nI i) xP xC xA xL (nI D) xQ xS xK dA aA po st (upd jm o (nI (i + 1))) pl op el so ip va ov oc := by
    intro z hz
    subst hz
    unfold wX_closeBlock_71
    refine ⟨vp_in_nI hi (by omega), nm_r (e' := dl_j1 jm o i (if st (o * 4) = 11 then nI o else nI (i + 1))) (by rw [ci]; rfl) (br_c (fun y => h y) (fun y => ?_))⟩
    rcases he with he | ⟨m, hm64, he⟩
    · exact absurd he y
    · rw [he]
      have cm := dl_c (show m < 2 ^ 31 by omega)
      refine ⟨vp_in_nI ho64 (by omega), nm_r (e' := upd (dl_j1 jm o i (if st (o * 4) = 11 then nI o else nI (i + 1))) o (nI (m + 1))) (by rw [co, nI_1]) ⟨vp_in_nI hm64 (by omega), nm_r (e' := dl_j2 jm o m i (if st (o * 4) = 11 then nI o else nI (i + 1))) (by rw [cm]; rfl) (hm m hm64 he)⟩⟩
  exact dx_isWhile ho64 (fun z => br_f (by decide) (fin _ (if_pos z).symm)) (fun z => br_t rfl (fin _ (if_neg z).symm))
/-! one statement of a check, by its kind -/
theorem dl_s0 {i : Nat} (h : i < 64) : vp_in (nI (i * 4)) 256 ∧ (nI (i * 4)).toNatClampNeg = i * 4 := ⟨vp_in_nI (by omega) (by omega), dl_c (by omega)⟩
theorem dl_s1 {i : Nat} (h : i < 64) : vp_in (nI (i * 4) + 1) 256 ∧ (nI (i * 4) + 1).toNatClampNeg = i * 4 + 1 := by
  rw [nI_1]
  exact ⟨vp_in_nI (by omega) (by omega), dl_c (by omega)⟩
theorem dl_s2 {i : Nat} (h : i < 64) : vp_in (nI (i * 4) + 2) 256 ∧ (nI (i * 4) + 2).toNatClampNeg = i * 4 + 2 := by
  rw [show nI (i * 4) + 2 = nI (i * 4 + 2) from nI_add _ 2]
  exact ⟨vp_in_nI (by omega) (by omega), dl_c (by omega)⟩
theorem dl_s3 {i : Nat} (h : i < 64) : vp_in (nI (i * 4) + 3) 256 ∧ (nI (i * 4) + 3).toNatClampNeg = i * 4 + 3 := by
  rw [show nI (i * 4) + 3 = nI (i * 4 + 3) from nI_add _ 3]
  exact ⟨vp_in_nI (by omega) (by omega), dl_c (by omega)⟩
theorem dx_st1 {post : Int32 → St2 → Prop} {P D i t : Nat} (hP : P ≤ 8) (hD : D ≤ 8) (hi : i < 64) (hk : st (i * 4) = 1) (ha : st (i * 4 + 1) = nI t) (ht : t < 20) (h0 : dl_fl P aA po (dl_S1 pl so D) t 0 → post 0 (nI P, xC, xA, xL, nI D, xQ, xS, xK, dA, aA, po, st, jm, pl, op, el, dl_S1 pl so D, ip, va, ov, oc)) (h3 : ¬ dl_fl P aA po (dl_S1 pl so D) t 0 → post 3 (nI P, xC, xA, xL, nI D, xQ, xS, xK, dA, aA, po, st, jm, pl, op, el, dl_S1 pl so D, ip, va, ov, oc)) : wpX_statementError post (nI P, xC, xA, xL, nI D, xQ, xS, xK, dA, aA, po, st, jm, pl, op, el, so, ip, va, ov, oc) (nI i) := by
  unfold wpX_statementError
  obtain ⟨v0, c0⟩ := dl_s0 hi
  obtain ⟨v1, c1⟩ := dl_s1 hi
  obtain ⟨v2, c2⟩ := dl_s2 hi
  refine nm_r (dl_m4 i) ⟨v1, nm_r (e' := nI t) (by rw [c1]; exact ha) ⟨v2, nm_r (e' := st (i * 4 + 2)) (by rw [c2]) ⟨v0, nm_r (e' := 1) (by rw [c0]; exact hk) (br_f (by decide) (br_f (by decide) (br_t rfl (dx_takePc hD (dx_flows hP ht (fun z => br_f (by decide) (h0 z)) (fun z => br_t rfl (h3 z)))))))⟩⟩⟩
theorem dx_st2 {post : Int32 → St2 → Prop} {P D i t b : Nat} (hP : P ≤ 8) (hD : D ≤ 8) (hi : i < 64) (hk : st (i * 4) = 2) (ha : st (i * 4 + 1) = nI t) (hb : st (i * 4 + 2) = nI b) (ht : t < 20) (hb' : b < 20) (h0 : dl_fl P aA po (dl_S2 pl po so D b) t 0 → post 0 (nI P, xC, xA, xL, nI D, xQ, xS, xK, dA, aA, po, st, jm, pl, op, el, dl_S2 pl po so D b, ip, va, ov, oc)) (h3 : ¬ dl_fl P aA po (dl_S2 pl po so D b) t 0 → post 3 (nI P, xC, xA, xL, nI D, xQ, xS, xK, dA, aA, po, st, jm, pl, op, el, dl_S2 pl po so D b, ip, va, ov, oc)) : wpX_statementError post (nI P, xC, xA, xL, nI D, xQ, xS, xK, dA, aA, po, st, jm, pl, op, el, so, ip, va, ov, oc) (nI i) := by
  unfold wpX_statementError
  obtain ⟨v0, c0⟩ := dl_s0 hi
  obtain ⟨v1, c1⟩ := dl_s1 hi
  obtain ⟨v2, c2⟩ := dl_s2 hi
  refine nm_r (dl_m4 i) ⟨v1, nm_r (e' := nI t) (by rw [c1]; exact ha) ⟨v2, nm_r (e' := nI b) (by rw [c2]; exact hb) ⟨v0, nm_r (e' := 2) (by rw [c0]; exact hk) (br_f (by decide) (br_f (by decide) (br_f (by decide) (br_t rfl (dx_takePc hD (dx_join hb' (dx_flows hP ht (fun z => br_f (by decide) (h0 z)) (fun z => br_t rfl (h3 z)))))))))⟩⟩⟩
theorem dx_st12 {post : Int32 → St2 → Prop} {P D i t b : Nat} (hP : P ≤ 8) (hD : D ≤ 8) (hi : i < 64) (hk : st (i * 4) = 12) (ha : st (i * 4 + 1) = nI t) (hb : st (i * 4 + 2) = nI b) (ht : t < 4) (hb' : b < 20) (h0 : dl_fl P aA po (dl_S2 pl po so D b) (16 + t) 0 → post 0 (nI P, xC, xA, xL, nI D, xQ, xS, xK, dA, aA, po, st, jm, pl, op, el, dl_S2 pl po so D b, ip, va, ov, oc)) (h3 : ¬ dl_fl P aA po (dl_S2 pl po so D b) (16 + t) 0 → post 3 (nI P, xC, xA, xL, nI D, xQ, xS, xK, dA, aA, po, st, jm, pl, op, el, dl_S2 pl po so D b, ip, va, ov, oc)) : wpX_statementError post (nI P, xC, xA, xL, nI D, xQ, xS, xK, dA, aA, po, st, jm, pl, op, el, so, ip, va, ov, oc) (nI i) := by
  unfold wpX_statementError
  obtain ⟨v0, c0⟩ := dl_s0 hi
  obtain ⟨v1, c1⟩ := dl_s1 hi
  obtain ⟨v2, c2⟩ := dl_s2 hi
  have e16 : (16 : Int32) + nI t = nI (16 + t) := nI_add 16 t
  refine nm_r (dl_m4 i) ⟨v1, nm_r (e' := nI t) (by rw [c1]; exact ha) ⟨v2, nm_r (e' := nI b) (by rw [c2]; exact hb) ⟨v0, nm_r (e' := 12) (by rw [c0]; exact hk) (br_f (by decide) (br_f (by decide) (br_f (by decide) (br_f (by decide) (br_f (by decide) (br_f (by decide) (br_f (by decide) (br_f (by decide) (br_f (by decide) (br_f (by decide) (br_f (by decide) (br_f (by decide) (br_f (by decide) (br_t rfl (dx_takePc hD (dx_join hb' ?_))))))))))))))))⟩⟩⟩
  show wpX_flowsTo _ _ (16 + nI t) 0
  rw [e16]
  exact dx_flows hP (by omega) (fun z => br_f (by decide) (h0 z)) (fun z => br_t rfl (h3 z))
theorem dx_st226 {post : Int32 → St2 → Prop} {P D i t b c : Nat} (hP : P ≤ 8) (hD : D ≤ 8) (hi : i < 64) (hc : st (i * 4 + 3) = nI c) (ht : t < 20) (hb' : b < 20) (hc' : c < 20) (h0 : dl_fl P aA po (dl_Sj po (dl_S2 pl po so D b) c) t 0 → post 0 (nI P, xC, xA, xL, nI D, xQ, xS, xK, dA, aA, po, st, jm, pl, op, el, dl_Sj po (dl_S2 pl po so D b) c, ip, va, ov, oc)) (h3 : ¬ dl_fl P aA po (dl_Sj po (dl_S2 pl po so D b) c) t 0 → post 3 (nI P, xC, xA, xL, nI D, xQ, xS, xK, dA, aA, po, st, jm, pl, op, el, dl_Sj po (dl_S2 pl po so D b) c, ip, va, ov, oc)) : wX_statementError_226 post (nI (i * 4)) (nI t) (nI b) (nI P) xC xA xL (nI D) xQ xS xK dA aA po st jm pl op el so ip va ov oc := by
  unfold wX_statementError_226
  obtain ⟨v3, c3⟩ := dl_s3 hi
  refine dx_takePc hD (dx_join hb' ⟨v3, ?_⟩)
  rw [c3, hc]
  exact dx_join hc' (dx_flows hP ht (fun z => br_f (by decide) (h0 z)) (fun z => br_t rfl (h3 z)))
theorem dx_st3 {post : Int32 → St2 → Prop} {P D i t b c : Nat} (hP : P ≤ 8) (hD : D ≤ 8) (hi : i < 64) (hk : st (i * 4) = 3) (ha : st (i * 4 + 1) = nI t) (hb : st (i * 4 + 2) = nI b) (hc : st (i * 4 + 3) = nI c) (ht : t < 20) (hb' : b < 20) (hc' : c < 20) (h0 : dl_fl P aA po (dl_Sj po (dl_S2 pl po so D b) c) t 0 → post 0 (nI P, xC, xA, xL, nI D, xQ, xS, xK, dA, aA, po, st, jm, pl, op, el, dl_Sj po (dl_S2 pl po so D b) c, ip, va, ov, oc)) (h3 : ¬ dl_fl P aA po (dl_Sj po (dl_S2 pl po so D b) c) t 0 → post 3 (nI P, xC, xA, xL, nI D, xQ, xS, xK, dA, aA, po, st, jm, pl, op, el, dl_Sj po (dl_S2 pl po so D b) c, ip, va, ov, oc)) : wpX_statementError post (nI P, xC, xA, xL, nI D, xQ, xS, xK, dA, aA, po, st, jm, pl, op, el, so, ip, va, ov, oc) (nI i) := by
  unfold wpX_statementError
  obtain ⟨v0, c0⟩ := dl_s0 hi
  obtain ⟨v1, c1⟩ := dl_s1 hi
  obtain ⟨v2, c2⟩ := dl_s2 hi
  refine nm_r (dl_m4 i) ⟨v1, nm_r (e' := nI t) (by rw [c1]; exact ha) ⟨v2, nm_r (e' := nI b) (by rw [c2]; exact hb) ⟨v0, nm_r (e' := 3) (by rw [c0]; exact hk) (br_f (by decide) (br_f (by decide) (br_f (by decide) (br_f (by decide) (br_t rfl (dx_st226 hP hD hi hc ht hb' hc' h0 h3))))))⟩⟩⟩
theorem dx_st4 {post : Int32 → St2 → Prop} {P D i t b c : Nat} (hP : P ≤ 8) (hD : D ≤ 8) (hi : i < 64) (hk : st (i * 4) = 4) (ha : st (i * 4 + 1) = nI t) (hb : st (i * 4 + 2) = nI b) (hc : st (i * 4 + 3) = nI c) (ht : t < 20) (hb' : b < 20) (hc' : c < 20) (h0 : dl_fl P aA po (dl_Sj po (dl_S2 pl po so D b) c) t 0 → post 0 (nI P, xC, xA, xL, nI D, xQ, xS, xK, dA, aA, po, st, jm, pl, op, el, dl_Sj po (dl_S2 pl po so D b) c, ip, va, ov, oc)) (h3 : ¬ dl_fl P aA po (dl_Sj po (dl_S2 pl po so D b) c) t 0 → post 3 (nI P, xC, xA, xL, nI D, xQ, xS, xK, dA, aA, po, st, jm, pl, op, el, dl_Sj po (dl_S2 pl po so D b) c, ip, va, ov, oc)) : wpX_statementError post (nI P, xC, xA, xL, nI D, xQ, xS, xK, dA, aA, po, st, jm, pl, op, el, so, ip, va, ov, oc) (nI i) := by
  unfold wpX_statementError
  obtain ⟨v0, c0⟩ := dl_s0 hi
  obtain ⟨v1, c1⟩ := dl_s1 hi
  obtain ⟨v2, c2⟩ := dl_s2 hi
  refine nm_r (dl_m4 i) ⟨v1, nm_r (e' := nI t) (by rw [c1]; exact ha) ⟨v2, nm_r (e' := nI b) (by rw [c2]; exact hb) ⟨v0, nm_r (e' := 4) (by rw [c0]; exact hk) (br_f (by decide) (br_f (by decide) (br_f (by decide) (br_f (by decide) (br_f (by decide) (br_t rfl (dx_st226 hP hD hi hc ht hb' hc' h0 h3)))))))⟩⟩⟩
theorem dx_st5 {post : Int32 → St2 → Prop} {P D i t b c : Nat} (hP : P ≤ 8) (hD : D ≤ 8) (hi : i < 64) (hk : st (i * 4) = 5) (ha : st (i * 4 + 1) = nI t) (hb : st (i * 4 + 2) = nI b) (hc : st (i * 4 + 3) = nI c) (ht : t < 20) (hb' : b < 20) (hc' : c < 20) (h0 : dl_fl P aA po (dl_Sj po (dl_S2 pl po so D b) c) t 0 → post 0 (nI P, xC, xA, xL, nI D, xQ, xS, xK, dA, aA, po, st, jm, pl, op, el, dl_Sj po (dl_S2 pl po so D b) c, ip, va, ov, oc)) (h3 : ¬ dl_fl P aA po (dl_Sj po (dl_S2 pl po so D b) c) t 0 → post 3 (nI P, xC, xA, xL, nI D, xQ, xS, xK, dA, aA, po, st, jm, pl, op, el, dl_Sj po (dl_S2 pl po so D b) c, ip, va, ov, oc)) : wpX_statementError post (nI P, xC, xA, xL, nI D, xQ, xS, xK, dA, aA, po, st, jm, pl, op, el, so, ip, va, ov, oc) (nI i) := by
  unfold wpX_statementError
  obtain ⟨v0, c0⟩ := dl_s0 hi
  obtain ⟨v1, c1⟩ := dl_s1 hi
  obtain ⟨v2, c2⟩ := dl_s2 hi
  refine nm_r (dl_m4 i) ⟨v1, nm_r (e' := nI t) (by rw [c1]; exact ha) ⟨v2, nm_r (e' := nI b) (by rw [c2]; exact hb) ⟨v0, nm_r (e' := 5) (by rw [c0]; exact hk) (br_f (by decide) (br_f (by decide) (br_f (by decide) (br_f (by decide) (br_f (by decide) (br_f (by decide) (br_t rfl (dx_st226 hP hD hi hc ht hb' hc' h0 h3))))))))⟩⟩⟩
theorem dx_st6 {post : Int32 → St2 → Prop} {P D i t b c : Nat} (hP : P ≤ 8) (hD : D ≤ 8) (hi : i < 64) (hk : st (i * 4) = 6) (ha : st (i * 4 + 1) = nI t) (hb : st (i * 4 + 2) = nI b) (hc : st (i * 4 + 3) = nI c) (ht : t < 20) (hb' : b < 20) (hc' : c < 20) (h0 : dl_fl P aA po (dl_Sj po (dl_S2 pl po so D b) c) t 0 → post 0 (nI P, xC, xA, xL, nI D, xQ, xS, xK, dA, aA, po, st, jm, pl, op, el, dl_Sj po (dl_S2 pl po so D b) c, ip, va, ov, oc)) (h3 : ¬ dl_fl P aA po (dl_Sj po (dl_S2 pl po so D b) c) t 0 → post 3 (nI P, xC, xA, xL, nI D, xQ, xS, xK, dA, aA, po, st, jm, pl, op, el, dl_Sj po (dl_S2 pl po so D b) c, ip, va, ov, oc)) : wpX_statementError post (nI P, xC, xA, xL, nI D, xQ, xS, xK, dA, aA, po, st, jm, pl, op, el, so, ip, va, ov, oc) (nI i) := by
  unfold wpX_statementError
  obtain ⟨v0, c0⟩ := dl_s0 hi
  obtain ⟨v1, c1⟩ := dl_s1 hi
  obtain ⟨v2, c2⟩ := dl_s2 hi
  refine nm_r (dl_m4 i) ⟨v1, nm_r (e' := nI t) (by rw [c1]; exact ha) ⟨v2, nm_r (e' := nI b) (by rw [c2]; exact hb) ⟨v0, nm_r (e' := 6) (by rw [c0]; exact hk) (br_f (by decide) (br_f (by decide) (br_f (by decide) (br_f (by decide) (br_f (by decide) (br_f (by decide) (br_f (by decide) (br_t rfl (dx_st226 hP hD hi hc ht hb' hc' h0 h3)))))))))⟩⟩⟩
theorem dx_st7 {post : Int32 → St2 → Prop} {P D i t b c : Nat} (hP : P ≤ 8) (hD : D ≤ 8) (hi : i < 64) (hk : st (i * 4) = 7) (ha : st (i * 4 + 1) = nI t) (hb : st (i * 4 + 2) = nI b) (hc : st (i * 4 + 3) = nI c) (ht : t < 20) (hb' : b < 20) (hc' : c < 20) (h0 : dl_fl P aA po (dl_Sj po (dl_S2 pl po so D b) c) t 0 → post 0 (nI P, xC, xA, xL, nI D, xQ, xS, xK, dA, aA, po, st, jm, pl, op, el, dl_Sj po (dl_S2 pl po so D b) c, ip, va, ov, oc)) (h3 : ¬ dl_fl P aA po (dl_Sj po (dl_S2 pl po so D b) c) t 0 → post 3 (nI P, xC, xA, xL, nI D, xQ, xS, xK, dA, aA, po, st, jm, pl, op, el, dl_Sj po (dl_S2 pl po so D b) c, ip, va, ov, oc)) : wpX_statementError post (nI P, xC, xA, xL, nI D, xQ, xS, xK, dA, aA, po, st, jm, pl, op, el, so, ip, va, ov, oc) (nI i) := by
  unfold wpX_statementError
  obtain ⟨v0, c0⟩ := dl_s0 hi
  obtain ⟨v1, c1⟩ := dl_s1 hi
  obtain ⟨v2, c2⟩ := dl_s2 hi
  refine nm_r (dl_m4 i) ⟨v1, nm_r (e' := nI t) (by rw [c1]; exact ha) ⟨v2, nm_r (e' := nI b) (by rw [c2]; exact hb) ⟨v0, nm_r (e' := 7) (by rw [c0]; exact hk) (br_f (by decide) (br_f (by decide) (br_f (by decide) (br_f (by decide) (br_f (by decide) (br_f (by decide) (br_f (by decide) (br_f (by decide) (br_t rfl (dx_st226 hP hD hi hc ht hb' hc' h0 h3))))))))))⟩⟩⟩
theorem dx_st13 {post : Int32 → St2 → Prop} {P D i t b : Nat} (hP : P ≤ 8) (hD : D ≤ 8) (hi : i < 64) (hk : st (i * 4) = 13) (ha : st (i * 4 + 1) = nI t) (hb : st (i * 4 + 2) = nI b) (ht : t < 20) (hb' : b < 20) (h3 : ¬ dl_fl P aA po (dl_S1 pl so D) t 0 → post 3 (nI P, xC, xA, xL, nI D, xQ, xS, xK, dA, aA, po, st, jm, pl, op, el, dl_S1 pl so D, ip, va, ov, oc)) (h4 : dl_fl P aA po (dl_S1 pl so D) t 0 → ¬ dl_fl P aA po (dl_St po (dl_S1 pl so D) b) t xA → post 4 (nI P, xC, xA, xL, nI D, xQ, xS, xK, dA, aA, po, st, jm, pl, op, el, dl_St po (dl_S1 pl so D) b, ip, va, ov, oc)) (h0 : dl_fl P aA po (dl_S1 pl so D) t 0 → dl_fl P aA po (dl_St po (dl_S1 pl so D) b) t xA → post 0 (nI P, xC, xA, xL, nI D, xQ, xS, xK, dA, aA, po, st, jm, pl, op, el, dl_St po (dl_S1 pl so D) b, ip, va, ov, oc)) : wpX_statementError post (nI P, xC, xA, xL, nI D, xQ, xS, xK, dA, aA, po, st, jm, pl, op, el, so, ip, va, ov, oc) (nI i) := by
  unfold wpX_statementError
  obtain ⟨v0, c0⟩ := dl_s0 hi
  obtain ⟨v1, c1⟩ := dl_s1 hi
  obtain ⟨v2, c2⟩ := dl_s2 hi
  refine nm_r (dl_m4 i) ⟨v1, nm_r (e' := nI t) (by rw [c1]; exact ha) ⟨v2, nm_r (e' := nI b) (by rw [c2]; exact hb) ⟨v0, nm_r (e' := 13) (by rw [c0]; exact hk) (br_f (by decide) (br_f (by decide) (br_f (by decide) (br_f (by decide) (br_f (by decide) (br_f (by decide) (br_f (by decide) (br_f (by decide) (br_f (by decide) (br_f (by decide) (br_f (by decide) (br_f (by decide) (br_f (by decide) (br_f (by decide) (br_t rfl (dx_takePc hD (dx_flows hP ht (fun z => br_f (by decide) (dx_takeT hb' (dx_flows hP ht (fun y => br_f (by decide) (h0 z y)) (fun y => br_t rfl (h4 z y))))) (fun z => br_t rfl (h3 z)))))))))))))))))))⟩⟩⟩
theorem dx_st8 {post : Int32 → St2 → Prop} {D i t : Nat} (hD : D < 8) (hi : i < 64) (hk : st (i * 4) = 8) (ha : st (i * 4 + 1) = nI t) (ht : t < 20) (h : post 0 (xP, xC, xA, xL, nI (D + 1), xQ, xS, xK, dA, aA, po, st, jm, dl_seg (dl_S2 pl po so D t) pl ((D + 1) * 8) 8, upd op D (nI i), upd el D (-1), dl_S2 pl po so D t, ip, va, ov, oc)) : wpX_statementError post (xP, xC, xA, xL, nI D, xQ, xS, xK, dA, aA, po, st, jm, pl, op, el, so, ip, va, ov, oc) (nI i) := by
  unfold wpX_statementError
  obtain ⟨v0, c0⟩ := dl_s0 hi
  obtain ⟨v1, c1⟩ := dl_s1 hi
  obtain ⟨v2, c2⟩ := dl_s2 hi
  refine nm_r (dl_m4 i) ⟨v1, nm_r (e' := nI t) (by rw [c1]; exact ha) ⟨v2, nm_r (e' := st (i * 4 + 2)) (by rw [c2]) ⟨v0, nm_r (e' := 8) (by rw [c0]; exact hk) (br_f (by decide) (br_f (by decide) (br_f (by decide) (br_f (by decide) (br_f (by decide) (br_f (by decide) (br_f (by decide) (br_f (by decide) (br_f (by decide) (br_t rfl (?_)))))))))))⟩⟩⟩
  unfold wX_statementError_96
  exact dx_open hD ht h
theorem dx_st88 {post : Int32 → St2 → Prop} {i t : Nat} (hi : i < 64) (hk : st (i * 4) = 8) (ha : st (i * 4 + 1) = nI t) (h : post 2 (xP, xC, xA, xL, nI 8, xQ, xS, xK, dA, aA, po, st, jm, pl, op, el, so, ip, va, ov, oc)) : wpX_statementError post (xP, xC, xA, xL, nI 8, xQ, xS, xK, dA, aA, po, st, jm, pl, op, el, so, ip, va, ov, oc) (nI i) := by
  unfold wpX_statementError
  obtain ⟨v0, c0⟩ := dl_s0 hi
  obtain ⟨v1, c1⟩ := dl_s1 hi
  obtain ⟨v2, c2⟩ := dl_s2 hi
  refine nm_r (dl_m4 i) ⟨v1, nm_r (e' := nI t) (by rw [c1]; exact ha) ⟨v2, nm_r (e' := st (i * 4 + 2)) (by rw [c2]) ⟨v0, nm_r (e' := 8) (by rw [c0]; exact hk) (br_f (by decide) (br_f (by decide) (br_f (by decide) (br_f (by decide) (br_f (by decide) (br_f (by decide) (br_f (by decide) (br_f (by decide) (br_f (by decide) (br_t rfl (?_)))))))))))⟩⟩⟩
  unfold wX_statementError_96
  exact dx_open8 (Nat.le_refl _) (by omega) h
theorem dx_st11 {post : Int32 → St2 → Prop} {D i t : Nat} (hD : D < 8) (hi : i < 64) (hk : st (i * 4) = 11) (ha : st (i * 4 + 1) = nI t) (ht : t < 20) (h : post 0 (xP, xC, xA, xL, nI (D + 1), xQ, xS, xK, dA, aA, po, st, jm, dl_seg (dl_S2 pl po so D t) pl ((D + 1) * 8) 8, upd op D (nI i), upd el D (-1), dl_S2 pl po so D t, ip, va, ov, oc)) : wpX_statementError post (xP, xC, xA, xL, nI D, xQ, xS, xK, dA, aA, po, st, jm, pl, op, el, so, ip, va, ov, oc) (nI i) := by
  unfold wpX_statementError
  obtain ⟨v0, c0⟩ := dl_s0 hi
  obtain ⟨v1, c1⟩ := dl_s1 hi
  obtain ⟨v2, c2⟩ := dl_s2 hi
  refine nm_r (dl_m4 i) ⟨v1, nm_r (e' := nI t) (by rw [c1]; exact ha) ⟨v2, nm_r (e' := st (i * 4 + 2)) (by rw [c2]) ⟨v0, nm_r (e' := 11) (by rw [c0]; exact hk) (br_f (by decide) (br_f (by decide) (br_f (by decide) (br_f (by decide) (br_f (by decide) (br_f (by decide) (br_f (by decide) (br_f (by decide) (br_f (by decide) (br_f (by decide) (br_f (by decide) (br_f (by decide) (br_t rfl (?_))))))))))))))⟩⟩⟩
  unfold wX_statementError_96
  exact dx_open hD ht h
theorem dx_st118 {post : Int32 → St2 → Prop} {i t : Nat} (hi : i < 64) (hk : st (i * 4) = 11) (ha : st (i * 4 + 1) = nI t) (h : post 2 (xP, xC, xA, xL, nI 8, xQ, xS, xK, dA, aA, po, st, jm, pl, op, el, so, ip, va, ov, oc)) : wpX_statementError post (xP, xC, xA, xL, nI 8, xQ, xS, xK, dA, aA, po, st, jm, pl, op, el, so, ip, va, ov, oc) (nI i) := by
  unfold wpX_statementError
  obtain ⟨v0, c0⟩ := dl_s0 hi
  obtain ⟨v1, c1⟩ := dl_s1 hi
  obtain ⟨v2, c2⟩ := dl_s2 hi
  refine nm_r (dl_m4 i) ⟨v1, nm_r (e' := nI t) (by rw [c1]; exact ha) ⟨v2, nm_r (e' := st (i * 4 + 2)) (by rw [c2]) ⟨v0, nm_r (e' := 11) (by rw [c0]; exact hk) (br_f (by decide) (br_f (by decide) (br_f (by decide) (br_f (by decide) (br_f (by decide) (br_f (by decide) (br_f (by decide) (br_f (by decide) (br_f (by decide) (br_f (by decide) (br_f (by decide) (br_f (by decide) (br_t rfl (?_))))))))))))))⟩⟩⟩
  unfold wX_statementError_96
  exact dx_open8 (Nat.le_refl _) (by omega) h
theorem dx_st90 {post : Int32 → St2 → Prop} {i : Nat} (hi : i < 64) (hk : st (i * 4) = 9) (h : post 1 (xP, xC, xA, xL, nI 0, xQ, xS, xK, dA, aA, po, st, jm, pl, op, el, so, ip, va, ov, oc)) : wpX_statementError post (xP, xC, xA, xL, nI 0, xQ, xS, xK, dA, aA, po, st, jm, pl, op, el, so, ip, va, ov, oc) (nI i) := by
  unfold wpX_statementError
  obtain ⟨v0, c0⟩ := dl_s0 hi
  obtain ⟨v1, c1⟩ := dl_s1 hi
  obtain ⟨v2, c2⟩ := dl_s2 hi
  exact nm_r (dl_m4 i) ⟨v1, nm_e ⟨v2, nm_e ⟨v0, nm_r (e' := 9) (by rw [c0]; exact hk) (br_f (by decide) (br_f (by decide) (br_f (by decide) (br_f (by decide) (br_f (by decide) (br_f (by decide) (br_f (by decide) (br_f (by decide) (br_f (by decide) (br_f (by decide) (br_t rfl (dx_split0 h))))))))))))⟩⟩⟩
theorem dx_st9 {post : Int32 → St2 → Prop} {D o i : Nat} (hD : D < 8) (ho : op D = nI o) (ho64 : o < 64) (hi : i < 64) (hk : st (i * 4) = 9) (h1 : (st (o * 4) = 11 ∨ ¬ el D = -1) → post 1 (xP, xC, xA, xL, nI (D + 1), xQ, xS, xK, dA, aA, po, st, jm, pl, op, el, so, ip, va, ov, oc)) (h0 : ¬ st (o * 4) = 11 → el D = -1 → post 0 (xP, xC, xA, xL, nI (D + 1), xQ, xS, xK, dA, aA, po, st, jm, pl, op, upd el D (nI i), so, ip, va, ov, oc)) : wpX_statementError post (xP, xC, xA, xL, nI (D + 1), xQ, xS, xK, dA, aA, po, st, jm, pl, op, el, so, ip, va, ov, oc) (nI i) := by
  unfold wpX_statementError
  obtain ⟨v0, c0⟩ := dl_s0 hi
  obtain ⟨v1, c1⟩ := dl_s1 hi
  obtain ⟨v2, c2⟩ := dl_s2 hi
  exact nm_r (dl_m4 i) ⟨v1, nm_e ⟨v2, nm_e ⟨v0, nm_r (e' := 9) (by rw [c0]; exact hk) (br_f (by decide) (br_f (by decide) (br_f (by decide) (br_f (by decide) (br_f (by decide) (br_f (by decide) (br_f (by decide) (br_f (by decide) (br_f (by decide) (br_f (by decide) (br_t rfl (dx_split hD ho ho64 h1 h0))))))))))))⟩⟩⟩
theorem dx_st100 {post : Int32 → St2 → Prop} {i : Nat} (hi : i < 64) (hk : st (i * 4) = 10) (h : post 1 (xP, xC, xA, xL, nI 0, xQ, xS, xK, dA, aA, po, st, jm, pl, op, el, so, ip, va, ov, oc)) : wpX_statementError post (xP, xC, xA, xL, nI 0, xQ, xS, xK, dA, aA, po, st, jm, pl, op, el, so, ip, va, ov, oc) (nI i) := by
  unfold wpX_statementError
  obtain ⟨v0, c0⟩ := dl_s0 hi
  obtain ⟨v1, c1⟩ := dl_s1 hi
  obtain ⟨v2, c2⟩ := dl_s2 hi
  exact nm_r (dl_m4 i) ⟨v1, nm_e ⟨v2, nm_e ⟨v0, nm_r (e' := 10) (by rw [c0]; exact hk) (br_f (by decide) (br_f (by decide) (br_f (by decide) (br_f (by decide) (br_f (by decide) (br_f (by decide) (br_f (by decide) (br_f (by decide) (br_f (by decide) (br_f (by decide) (br_f (by decide) (br_t rfl (dx_clb0 h)))))))))))))⟩⟩⟩
theorem dx_st10 {post : Int32 → St2 → Prop} {D o i : Nat} (hD : D < 8) (ho : op D = nI o) (ho64 : o < 64) (hi : i < 64) (hk : st (i * 4) = 10) (h : el D = -1 → post 0 (xP, xC, xA, xL, nI D, xQ, xS, xK, dA, aA, po, st, dl_j1 jm o i (if st (o * 4) = 11 then nI o else nI (i + 1)), pl, op, el, so, ip, va, ov, oc)) (hm : ∀ m, m < 64 → el D = nI m → post 0 (xP, xC, xA, xL, nI D, xQ, xS, xK, dA, aA, po, st, dl_j2 jm o m i (if st (o * 4) = 11 then nI o else nI (i + 1)), pl, op, el, so, ip, va, ov, oc)) (he : el D = -1 ∨ ∃ m, m < 64 ∧ el D = nI m) : wpX_statementError post (xP, xC, xA, xL, nI (D + 1), xQ, xS, xK, dA, aA, po, st, jm, pl, op, el, so, ip, va, ov, oc) (nI i) := by
  unfold wpX_statementError
  obtain ⟨v0, c0⟩ := dl_s0 hi
  obtain ⟨v1, c1⟩ := dl_s1 hi
  obtain ⟨v2, c2⟩ := dl_s2 hi
  exact nm_r (dl_m4 i) ⟨v1, nm_e ⟨v2, nm_e ⟨v0, nm_r (e' := 10) (by rw [c0]; exact hk) (br_f (by decide) (br_f (by decide) (br_f (by decide) (br_f (by decide) (br_f (by decide) (br_f (by decide) (br_f (by decide) (br_f (by decide) (br_f (by decide) (br_f (by decide) (br_f (by decide) (br_t rfl (dx_clb hD hi ho ho64 h hm he)))))))))))))⟩⟩⟩
end
end
section
/-! the blocks of a program: where the scans lead, and what a check knows of them; no print in this part -/
theorem dl_m1n {m : Nat} (h : m < 2 ^ 31) : ¬ (-1 : Int32) = nI m := by
  intro z
  have t := congrArg Int32.toInt z
  rw [nI_toInt h] at t
  have e : (-1 : Int32).toInt = -1 := by decide
  omega
def dl_sc (sk : Nat → Int32) (we : Bool) : Nat → Nat → Nat → Int32
  | 0, _, _ => -1
  | n + 1, j, d => if sk j = 8 ∨ sk j = 11 then dl_sc sk we n (j + 1) (d + 1) else if sk j = 10 then (if d = 0 then (if we = true then -1 else nI j) else dl_sc sk we n (j + 1) (d - 1)) else if sk j = 9 ∧ d = 0 ∧ we = true then nI j else dl_sc sk we n (j + 1) d
def dl_sf (sk : Nat → Int32) (len : Nat) (we : Bool) (j d : Nat) : Int32 := dl_sc sk we (len - j) j d
def dl_sb (sk : Nat → Int32) : Nat → Nat → Int32
  | 0, _ => -1
  | i + 1, d => if sk i = 10 then dl_sb sk i (d + 1) else if sk i = 8 ∨ sk i = 11 then (if d = 0 then nI i else dl_sb sk i (d - 1)) else dl_sb sk i d
theorem dl_sf_u {sk : Nat → Int32} {len : Nat} {we : Bool} {j d : Nat} (h : j < len) : dl_sf sk len we j d = if sk j = 8 ∨ sk j = 11 then dl_sf sk len we (j + 1) (d + 1) else if sk j = 10 then (if d = 0 then (if we = true then -1 else nI j) else dl_sf sk len we (j + 1) (d - 1)) else if sk j = 9 ∧ d = 0 ∧ we = true then nI j else dl_sf sk len we (j + 1) d := by
  unfold dl_sf
  obtain ⟨n, hn⟩ : ∃ n, len - j = n + 1 := ⟨len - j - 1, by omega⟩
  have e : len - (j + 1) = n := by omega
  rw [hn, e]
  rfl
theorem dl_sf_e {sk : Nat → Int32} {len : Nat} {we : Bool} {j d : Nat} (h : len ≤ j) : dl_sf sk len we j d = -1 := by
  unfold dl_sf
  have e : len - j = 0 := by omega
  rw [e]
  rfl
/-- the four sorts of kinds -/
def dl_op (k : Int32) : Prop := k = 8 ∨ k = 11
theorem dl_op9 {k : Int32} (h : k = 9) : ¬ (k = 8 ∨ k = 11) := by subst h; decide
theorem dl_op10 {k : Int32} (h : k = 10) : ¬ (k = 8 ∨ k = 11) := by subst h; decide
theorem dl_o10 {k : Int32} (h : k = 8 ∨ k = 11) : ¬ k = 10 := by rcases h with h | h <;> subst h <;> decide
theorem dl_o9 {k : Int32} (h : k = 8 ∨ k = 11) : ¬ k = 9 := by rcases h with h | h <;> subst h <;> decide
theorem dl_910 {k : Int32} (h : k = 9) : ¬ k = 10 := by subst h; decide
theorem dl_sf_o {sk : Nat → Int32} {len : Nat} {we : Bool} {j d : Nat} (h : j < len) (k : sk j = 8 ∨ sk j = 11) : dl_sf sk len we j d = dl_sf sk len we (j + 1) (d + 1) := by
  rw [dl_sf_u h, if_pos k]
theorem dl_sf_n {sk : Nat → Int32} {len : Nat} {we : Bool} {j d : Nat} (h : j < len) (k1 : ¬ (sk j = 8 ∨ sk j = 11)) (k2 : ¬ sk j = 10) (k3 : ¬ sk j = 9) : dl_sf sk len we j d = dl_sf sk len we (j + 1) d := by
  rw [dl_sf_u h, if_neg k1, if_neg k2, if_neg (fun z => k3 z.1)]
theorem dl_sf_9 {sk : Nat → Int32} {len : Nat} {we : Bool} {j d : Nat} (h : j < len) (k : sk j = 9) (z : ¬ (d = 0 ∧ we = true)) : dl_sf sk len we j d = dl_sf sk len we (j + 1) d := by
  rw [dl_sf_u h, if_neg (dl_op9 k), if_neg (dl_910 k), if_neg (fun y => z y.2)]
theorem dl_sf_9t {sk : Nat → Int32} {len : Nat} {j : Nat} (h : j < len) (k : sk j = 9) : dl_sf sk len true j 0 = nI j := by
  rw [dl_sf_u h, if_neg (dl_op9 k), if_neg (dl_910 k), if_pos ⟨k, rfl, rfl⟩]
theorem dl_sf_10 {sk : Nat → Int32} {len : Nat} {we : Bool} {j d : Nat} (h : j < len) (k : sk j = 10) : dl_sf sk len we j (d + 1) = dl_sf sk len we (j + 1) d := by
  rw [dl_sf_u h, if_neg (dl_op10 k), if_pos k, if_neg (Nat.succ_ne_zero d), Nat.add_sub_cancel]
theorem dl_sf_10f {sk : Nat → Int32} {len : Nat} {j : Nat} (h : j < len) (k : sk j = 10) : dl_sf sk len false j 0 = nI j := by
  rw [dl_sf_u h, if_neg (dl_op10 k), if_pos k, if_pos rfl, if_neg (by decide)]
theorem dl_sf_10t {sk : Nat → Int32} {len : Nat} {j : Nat} (h : j < len) (k : sk j = 10) : dl_sf sk len true j 0 = -1 := by
  rw [dl_sf_u h, if_neg (dl_op10 k), if_pos k, if_pos rfl, if_pos rfl]
theorem dl_sb_10 {sk : Nat → Int32} {i d : Nat} (k : sk i = 10) : dl_sb sk (i + 1) d = dl_sb sk i (d + 1) := by
  show (if sk i = 10 then _ else _) = _
  rw [if_pos k]
theorem dl_sb_o0 {sk : Nat → Int32} {i : Nat} (k : sk i = 8 ∨ sk i = 11) : dl_sb sk (i + 1) 0 = nI i := by
  show (if sk i = 10 then _ else _) = _
  rw [if_neg (dl_o10 k), if_pos k, if_pos rfl]
theorem dl_sb_os {sk : Nat → Int32} {i d : Nat} (k : sk i = 8 ∨ sk i = 11) : dl_sb sk (i + 1) (d + 1) = dl_sb sk i d := by
  show (if sk i = 10 then _ else _) = _
  rw [if_neg (dl_o10 k), if_pos k, if_neg (Nat.succ_ne_zero d), Nat.add_sub_cancel]
theorem dl_sb_n {sk : Nat → Int32} {i d : Nat} (k1 : ¬ (sk i = 8 ∨ sk i = 11)) (k2 : ¬ sk i = 10) : dl_sb sk (i + 1) d = dl_sb sk i d := by
  show (if sk i = 10 then _ else _) = _
  rw [if_neg k2, if_neg k1]
/-! where a step at q leads, if it doesn't just go on -/
def dl_af (sk : Nat → Int32) (len q : Nat) : Int32 := if dl_sf sk len false (q + 1) 0 < 0 then nI len else dl_sf sk len false (q + 1) 0 + 1
def dl_if (sk : Nat → Int32) (len q : Nat) : Int32 := if 0 ≤ dl_sf sk len true (q + 1) 0 then dl_sf sk len true (q + 1) 0 + 1 else dl_af sk len q
def dl_en (sk : Nat → Int32) (q : Nat) : Int32 := if 0 ≤ dl_sb sk q 0 ∧ sk (dl_sb sk q 0).toNatClampNeg = 11 then dl_sb sk q 0 else nI (q + 1)
def dl_tg (sk : Nat → Int32) (len q : Nat) : Int32 := if sk q = 8 then dl_if sk len q else if sk q = 10 then dl_en sk q else dl_af sk len q
def dl_ct (k : Int32) : Prop := k = 8 ∨ k = 9 ∨ k = 10 ∨ k = 11
/-- what a check knows of open block d of D, in front of statement i -/
def dl_B (sk : Nat → Int32) (len i D : Nat) (op el : Nat → Int32) (d : Nat) : Prop := ∃ o, o < i ∧ op d = nI o ∧ (sk o = 8 ∨ sk o = 11) ∧ dl_sb sk i (D - 1 - d) = nI o ∧ dl_sf sk len false (o + 1) 0 = dl_sf sk len false i (D - 1 - d) ∧ ((el d = -1 ∧ dl_sf sk len true (o + 1) 0 = dl_sf sk len true i (D - 1 - d)) ∨ ∃ m, m < i ∧ el d = nI m ∧ sk o = 8 ∧ sk m = 9 ∧ dl_sf sk len true (o + 1) 0 = nI m ∧ dl_sf sk len false (m + 1) 0 = dl_sf sk len false i (D - 1 - d))
def dl_J (sk : Nat → Int32) (len i D : Nat) (op el jm : Nat → Int32) : Prop := ∀ q, q < i → dl_ct (sk q) → jm q = dl_tg sk len q ∨ ∃ d, d < D ∧ (op d = nI q ∨ el d = nI q)
def dl_K (sk : Nat → Int32) (len i D : Nat) (op el jm : Nat → Int32) : Prop := (∀ d, d < D → dl_B sk len i D op el d) ∧ dl_J sk len i D op el jm
theorem dl_K0 (sk : Nat → Int32) (len : Nat) (op el jm : Nat → Int32) : dl_K sk len 0 0 op el jm := ⟨fun d h => absurd h (by omega), fun q h => absurd h (by omega)⟩
theorem dl_K_n {sk : Nat → Int32} {len i D : Nat} {op el jm : Nat → Int32} (hi : i < len) (K : dl_K sk len i D op el jm) (k : ¬ dl_ct (sk i)) : dl_K sk len (i + 1) D op el jm := by
  have k1 : ¬ (sk i = 8 ∨ sk i = 11) := fun z => k (z.elim Or.inl (fun y => Or.inr (Or.inr (Or.inr y))))
  have k2 : ¬ sk i = 10 := fun z => k (Or.inr (Or.inr (Or.inl z)))
  have k3 : ¬ sk i = 9 := fun z => k (Or.inr (Or.inl z))
  refine ⟨fun d hd => ?_, fun q hq hc => ?_⟩
  · obtain ⟨o, h1, h2, h3, h4, h5, h6⟩ := K.1 d hd
    refine ⟨o, by omega, h2, h3, by rw [dl_sb_n k1 k2]; exact h4, by rw [h5, dl_sf_n hi k1 k2 k3], ?_⟩
    rcases h6 with ⟨a1, a2⟩ | ⟨m, a0, a1, a2, a3, a4, a5⟩
    · exact Or.inl ⟨a1, by rw [a2, dl_sf_n hi k1 k2 k3]⟩
    · exact Or.inr ⟨m, by omega, a1, a2, a3, a4, by rw [a5, dl_sf_n hi k1 k2 k3]⟩
  · rcases Nat.lt_or_ge q i with h | h
    · exact K.2 q h hc
    · have e : q = i := by omega
      subst e
      exact absurd hc k
theorem dl_K_o {sk : Nat → Int32} {len i D : Nat} {op el jm : Nat → Int32} (hi : i < len) (K : dl_K sk len i D op el jm) (k : sk i = 8 ∨ sk i = 11) : dl_K sk len (i + 1) (D + 1) (upd op D (nI i)) (upd el D (-1)) jm := by
  have u1 : ∀ d, d < D → upd op D (nI i) d = op d := fun d hd => if_neg (by omega)
  have u2 : ∀ d, d < D → upd el D (-1) d = el d := fun d hd => if_neg (by omega)
  have u3 : upd op D (nI i) D = nI i := if_pos rfl
  have u4 : upd el D (-1) D = -1 := if_pos rfl
  refine ⟨fun d hd => ?_, fun q hq hc => ?_⟩
  · rcases Nat.lt_or_ge d D with h | h
    · obtain ⟨o, h1, h2, h3, h4, h5, h6⟩ := K.1 d h
      have e : D + 1 - 1 - d = (D - 1 - d) + 1 := by omega
      refine ⟨o, by omega, by rw [u1 d h]; exact h2, h3, by rw [e, dl_sb_os k]; exact h4, by rw [e, h5, dl_sf_o hi k], ?_⟩
      rw [u2 d h, e]
      rcases h6 with ⟨a1, a2⟩ | ⟨m, a0, a1, a2, a3, a4, a5⟩
      · exact Or.inl ⟨a1, by rw [a2, dl_sf_o hi k]⟩
      · exact Or.inr ⟨m, by omega, a1, a2, a3, a4, by rw [a5, dl_sf_o hi k]⟩
    · have e : d = D := by omega
      subst e
      have e2 : d + 1 - 1 - d = 0 := by omega
      refine ⟨i, by omega, u3, k, by rw [e2, dl_sb_o0 k], by rw [e2], Or.inl ⟨u4, by rw [e2]⟩⟩
  · rcases Nat.lt_or_ge q i with h | h
    · rcases K.2 q h hc with z | ⟨d, hd, z⟩
      · exact Or.inl z
      · exact Or.inr ⟨d, by omega, by rw [u1 d hd, u2 d hd]; exact z⟩
    · have e : q = i := by omega
      subst e
      exact Or.inr ⟨D, by omega, Or.inl u3⟩
theorem dl_K_e {sk : Nat → Int32} {len i D : Nat} {op el jm : Nat → Int32} (hi : i < len) (K : dl_K sk len i (D + 1) op el jm) (k : sk i = 9) (hw : ∀ o, o < i → op D = nI o → ¬ sk o = 11) (hn : el D = -1) (h31 : len < 2 ^ 31) : dl_K sk len (i + 1) (D + 1) op (upd el D (nI i)) jm := by
  have u2 : ∀ d, d < D → upd el D (nI i) d = el d := fun d hd => if_neg (by omega)
  have u4 : upd el D (nI i) D = nI i := if_pos rfl
  refine ⟨fun d hd => ?_, fun q hq hc => ?_⟩
  · obtain ⟨o, h1, h2, h3, h4, h5, h6⟩ := K.1 d hd
    rcases Nat.lt_or_ge d D with h | h
    · have z : ∀ we : Bool, ¬ (D + 1 - 1 - d = 0 ∧ we = true) := fun we y => by omega
      refine ⟨o, by omega, h2, h3, by rw [dl_sb_n (dl_op9 k) (dl_910 k)]; exact h4, by rw [h5, dl_sf_9 hi k (z _)], ?_⟩
      rw [u2 d h]
      rcases h6 with ⟨a1, a2⟩ | ⟨m, a0, a1, a2, a3, a4, a5⟩
      · exact Or.inl ⟨a1, by rw [a2, dl_sf_9 hi k (z _)]⟩
      · exact Or.inr ⟨m, by omega, a1, a2, a3, a4, by rw [a5, dl_sf_9 hi k (z _)]⟩
    · have e : d = D := by omega
      subst e
      have e2 : d + 1 - 1 - d = 0 := by omega
      rw [e2] at h4 h5 h6
      have z : ¬ ((0 : Nat) = 0 ∧ false = true) := fun y => Bool.noConfusion y.2
      refine ⟨o, by omega, h2, h3, by rw [e2, dl_sb_n (dl_op9 k) (dl_910 k)]; exact h4, by rw [e2, h5, dl_sf_9 hi k z], Or.inr ⟨i, by omega, u4, ?_, k, ?_, by rw [e2]⟩⟩
      · exact h3.elim (fun y => y) (fun y => absurd y (hw o h1 h2))
      · rcases h6 with ⟨a1, a2⟩ | ⟨m, a0, a1, a2, a3, a4, a5⟩
        · rw [a2, dl_sf_9t hi k]
        · rw [hn] at a1
          exact absurd a1 (dl_m1n (by omega))
  · rcases Nat.lt_or_ge q i with h | h
    · rcases K.2 q h hc with z | ⟨d, hd, z⟩
      · exact Or.inl z
      · refine Or.inr ⟨d, hd, ?_⟩
        rcases Nat.lt_or_ge d D with hd2 | hd2
        · rw [u2 d hd2]; exact z
        · have e : d = D := by omega
          subst e
          rcases z with z | z
          · exact Or.inl z
          · rw [hn] at z
            exact absurd z (dl_m1n (by omega))
    · have e : q = i := by omega
      subst e
      exact Or.inr ⟨D, by omega, Or.inr u4⟩
theorem dl_af_v {sk : Nat → Int32} {len q i : Nat} (h : dl_sf sk len false (q + 1) 0 = nI i) (hi : i < 2 ^ 31) : dl_af sk len q = nI (i + 1) := by
  unfold dl_af
  rw [h, if_neg (nI_pos hi), nI_1]
theorem dl_tg_9 {sk : Nat → Int32} {len q i : Nat} (k : sk q = 9) (h : dl_sf sk len false (q + 1) 0 = nI i) (hi : i < 2 ^ 31) : dl_tg sk len q = nI (i + 1) := by
  unfold dl_tg
  rw [if_neg (fun z => dl_op9 k (Or.inl z)), if_neg (dl_910 k)]
  exact dl_af_v h hi
theorem dl_tg_11 {sk : Nat → Int32} {len q i : Nat} (k : sk q = 11) (h : dl_sf sk len false (q + 1) 0 = nI i) (hi : i < 2 ^ 31) : dl_tg sk len q = nI (i + 1) := by
  unfold dl_tg
  rw [if_neg (by rw [k]; decide), if_neg (by rw [k]; decide)]
  exact dl_af_v h hi
theorem dl_tg_8 {sk : Nat → Int32} {len q m : Nat} (k : sk q = 8) (h : dl_sf sk len true (q + 1) 0 = nI m) (hm : m < 2 ^ 31) : dl_tg sk len q = nI (m + 1) := by
  unfold dl_tg dl_if
  rw [if_pos k, h, if_pos (nI_pos' hm), nI_1]
theorem dl_tg_8n {sk : Nat → Int32} {len q i : Nat} (k : sk q = 8) (h : dl_sf sk len true (q + 1) 0 = -1) (h2 : dl_sf sk len false (q + 1) 0 = nI i) (hi : i < 2 ^ 31) : dl_tg sk len q = nI (i + 1) := by
  unfold dl_tg dl_if
  rw [if_pos k, h, if_neg (by decide)]
  exact dl_af_v h2 hi
theorem dl_tg_10 {sk : Nat → Int32} {len q o : Nat} (k : sk q = 10) (h : dl_sb sk q 0 = nI o) (ho : o < 2 ^ 31) : dl_tg sk len q = if sk o = 11 then nI o else nI (q + 1) := by
  unfold dl_tg dl_en
  rw [if_neg (fun z => dl_op10 k (Or.inl z)), if_pos k, h, nI_clamp ho]
  by_cases z : sk o = 11
  · rw [if_pos z, if_pos ⟨nI_pos' ho, z⟩]
  · rw [if_neg z, if_neg (fun y => z y.2)]
/-- closing the innermost block at an END: any jumps that are right at the block's own places, and elsewhere as they were -/
theorem dl_K_x {sk : Nat → Int32} {len i D : Nat} {op el jm jm' : Nat → Int32} (hi : i < len) (K : dl_K sk len i (D + 1) op el jm) (k : sk i = 10) (h1 : jm' i = dl_tg sk len i) (h2 : ∀ q, q < i → op D = nI q → jm' q = dl_tg sk len q) (h3 : ∀ q, q < i → el D = nI q → jm' q = dl_tg sk len q) (h4 : ∀ q, q < i → ¬ op D = nI q → ¬ el D = nI q → jm' q = jm q) : dl_K sk len (i + 1) D op el jm' := by
  refine ⟨fun d hd => ?_, fun q hq hc => ?_⟩
  · obtain ⟨o, a1, a2, a3, a4, a5, a6⟩ := K.1 d (by omega)
    have e : D + 1 - 1 - d = (D - 1 - d) + 1 := by omega
    rw [e] at a4 a5 a6
    refine ⟨o, by omega, a2, a3, by rw [dl_sb_10 k]; exact a4, by rw [a5, dl_sf_10 hi k], ?_⟩
    rcases a6 with ⟨b1, b2⟩ | ⟨m, b0, b1, b2, b3, b4, b5⟩
    · exact Or.inl ⟨b1, by rw [b2, dl_sf_10 hi k]⟩
    · exact Or.inr ⟨m, by omega, b1, b2, b3, b4, by rw [b5, dl_sf_10 hi k]⟩
  · rcases Nat.lt_or_ge q i with h | h
    · by_cases z1 : op D = nI q
      · exact Or.inl (h2 q h z1)
      · by_cases z2 : el D = nI q
        · exact Or.inl (h3 q h z2)
        · rcases K.2 q h hc with z | ⟨d, hd, z⟩
          · exact Or.inl ((h4 q h z1 z2).trans z)
          · rcases Nat.lt_or_ge d D with hd2 | hd2
            · exact Or.inr ⟨d, hd2, z⟩
            · have e : d = D := by omega
              subst e
              exact absurd z (fun y => y.elim z1 z2)
    · have e : q = i := by omega
      subst e
      exact Or.inl h1
/-- what the innermost block says at an END -/
theorem dl_K_top {sk : Nat → Int32} {len i D : Nat} {op el jm : Nat → Int32} (hi : i < len) (hl : len < 2 ^ 31) (K : dl_K sk len i (D + 1) op el jm) (k : sk i = 10) : ∃ o, o < i ∧ op D = nI o ∧ (sk o = 8 ∨ sk o = 11) ∧ dl_tg sk len i = (if sk o = 11 then nI o else nI (i + 1)) ∧ ((el D = -1 ∧ dl_tg sk len o = nI (i + 1)) ∨ ∃ m, m < i ∧ el D = nI m ∧ sk o = 8 ∧ sk m = 9 ∧ dl_tg sk len o = nI (m + 1) ∧ dl_tg sk len m = nI (i + 1)) := by
  obtain ⟨o, a1, a2, a3, a4, a5, a6⟩ := K.1 D (by omega)
  have e : D + 1 - 1 - D = 0 := by omega
  rw [e] at a4 a5 a6
  rw [dl_sf_10f hi k] at a5
  refine ⟨o, a1, a2, a3, dl_tg_10 k a4 (by omega), ?_⟩
  rcases a6 with ⟨b1, b2⟩ | ⟨m, b0, b1, b2, b3, b4, b5⟩
  · rw [dl_sf_10t hi k] at b2
    refine Or.inl ⟨b1, ?_⟩
    rcases a3 with a3 | a3
    · exact dl_tg_8n a3 b2 a5 (by omega)
    · exact dl_tg_11 a3 a5 (by omega)
  · rw [dl_sf_10f hi k] at b5
    exact Or.inr ⟨m, b0, b1, b2, b3, dl_tg_8 b2 b4 (by omega), dl_tg_9 b3 b5 (by omega)⟩
theorem dl_K_fin {sk : Nat → Int32} {len : Nat} {op el jm : Nat → Int32} (K : dl_K sk len len 0 op el jm) : ∀ q, q < len → dl_ct (sk q) → jm q = dl_tg sk len q := by
  intro q hq hc
  rcases K.2 q hq hc with z | ⟨d, hd, _⟩
  · exact z
  · omega
/-! a target is a position of the program, or just behind it -/
theorem dl_sc_r (sk : Nat → Int32) (we : Bool) : ∀ n j d, dl_sc sk we n j d = -1 ∨ ∃ r, j ≤ r ∧ r < j + n ∧ dl_sc sk we n j d = nI r := by
  intro n
  induction n with
  | zero => intro j d; exact Or.inl rfl
  | succ n ih =>
    intro j d
    have up : ∀ d', dl_sc sk we n (j + 1) d' = -1 ∨ ∃ r, j ≤ r ∧ r < j + (n + 1) ∧ dl_sc sk we n (j + 1) d' = nI r := by
      intro d'
      rcases ih (j + 1) d' with z | ⟨r, r1, r2, z⟩
      · exact Or.inl z
      · exact Or.inr ⟨r, by omega, by omega, z⟩
    show (if sk j = 8 ∨ sk j = 11 then dl_sc sk we n (j + 1) (d + 1) else if sk j = 10 then (if d = 0 then (if we = true then -1 else nI j) else dl_sc sk we n (j + 1) (d - 1)) else if sk j = 9 ∧ d = 0 ∧ we = true then nI j else dl_sc sk we n (j + 1) d) = -1 ∨ ∃ r, j ≤ r ∧ r < j + (n + 1) ∧ (if sk j = 8 ∨ sk j = 11 then dl_sc sk we n (j + 1) (d + 1) else if sk j = 10 then (if d = 0 then (if we = true then -1 else nI j) else dl_sc sk we n (j + 1) (d - 1)) else if sk j = 9 ∧ d = 0 ∧ we = true then nI j else dl_sc sk we n (j + 1) d) = nI r
    split
    · exact up _
    · split
      · split
        · split
          · exact Or.inl rfl
          · exact Or.inr ⟨j, by omega, by omega, rfl⟩
        · exact up _
      · split
        · exact Or.inr ⟨j, by omega, by omega, rfl⟩
        · exact up _
theorem dl_sf_r (sk : Nat → Int32) (len : Nat) (we : Bool) (j d : Nat) : dl_sf sk len we j d = -1 ∨ ∃ r, r < len ∧ dl_sf sk len we j d = nI r := by
  unfold dl_sf
  rcases dl_sc_r sk we (len - j) j d with z | ⟨r, r1, r2, z⟩
  · exact Or.inl z
  · exact Or.inr ⟨r, by omega, z⟩
theorem dl_sb_r (sk : Nat → Int32) : ∀ i d, dl_sb sk i d = -1 ∨ ∃ r, r < i ∧ dl_sb sk i d = nI r := by
  intro i
  induction i with
  | zero => intro d; exact Or.inl rfl
  | succ i ih =>
    intro d
    have up : ∀ d', dl_sb sk i d' = -1 ∨ ∃ r, r < i + 1 ∧ dl_sb sk i d' = nI r := by
      intro d'
      rcases ih d' with z | ⟨r, r1, z⟩
      · exact Or.inl z
      · exact Or.inr ⟨r, by omega, z⟩
    show (if sk i = 10 then dl_sb sk i (d + 1) else if sk i = 8 ∨ sk i = 11 then (if d = 0 then nI i else dl_sb sk i (d - 1)) else dl_sb sk i d) = -1 ∨ ∃ r, r < i + 1 ∧ (if sk i = 10 then dl_sb sk i (d + 1) else if sk i = 8 ∨ sk i = 11 then (if d = 0 then nI i else dl_sb sk i (d - 1)) else dl_sb sk i d) = nI r
    split
    · exact up _
    · split
      · split
        · exact Or.inr ⟨i, by omega, rfl⟩
        · exact up _
      · exact up _
theorem dl_af_r (sk : Nat → Int32) {len q : Nat} (hl : len < 2 ^ 31) : ∃ r, r ≤ len ∧ dl_af sk len q = nI r := by
  unfold dl_af
  rcases dl_sf_r sk len false (q + 1) 0 with z | ⟨r, hr, z⟩
  · rw [z, if_pos (by decide)]
    exact ⟨len, Nat.le_refl _, rfl⟩
  · rw [z, if_neg (nI_pos (by omega)), nI_1]
    exact ⟨r + 1, by omega, rfl⟩
theorem dl_tg_r (sk : Nat → Int32) {len q : Nat} (hq : q < len) (hl : len < 2 ^ 31) : ∃ r, r ≤ len ∧ dl_tg sk len q = nI r := by
  unfold dl_tg
  split
  · unfold dl_if
    rcases dl_sf_r sk len true (q + 1) 0 with z | ⟨r, hr, z⟩
    · rw [z, if_neg (by decide)]
      exact dl_af_r sk hl
    · rw [z, if_pos (nI_pos' (by omega)), nI_1]
      exact ⟨r + 1, by omega, rfl⟩
  · split
    · unfold dl_en
      rcases dl_sb_r sk q 0 with z | ⟨r, hr, z⟩
      · rw [z, if_neg (fun y => absurd y.1 (by decide))]
        exact ⟨q + 1, by omega, rfl⟩
      · rw [z]
        split
        · exact ⟨r, by omega, rfl⟩
        · exact ⟨q + 1, by omega, rfl⟩
    · exact dl_af_r sk hl
end
section
/-! a pure machine of the checked program, and what an observer sees of two runs; no print in this part -/
abbrev ds_S : Type := Nat × (Nat → Int32) × (Nat → Int32) × (Nat → Int32)
def ds_a (st : Nat → Int32) (i : Nat) : Nat := (st (i * 4 + 1)).toNatClampNeg
def ds_b (st : Nat → Int32) (i : Nat) : Nat := (st (i * 4 + 2)).toNatClampNeg
def ds_c (st : Nat → Int32) (i : Nat) : Nat := (st (i * 4 + 3)).toNatClampNeg
def ds_val (st va : Nat → Int32) (i : Nat) : Int32 :=
  if st (i * 4) = 1 then st (i * 4 + 2)
  else if st (i * 4) = 3 then va (ds_b st i) + va (ds_c st i)
  else if st (i * 4) = 4 then va (ds_b st i) - va (ds_c st i)
  else if st (i * 4) = 5 then va (ds_b st i) * va (ds_c st i)
  else if st (i * 4) = 6 then (if va (ds_b st i) < va (ds_c st i) then 1 else 0)
  else if st (i * 4) = 7 then (if va (ds_b st i) = va (ds_c st i) then 1 else 0)
  else va (ds_b st i)
def ds_br (k : Int32) : Prop := k = 8 ∨ k = 11
def ds_jp (k : Int32) : Prop := k = 9 ∨ k = 10
def ds_cn (oc : Nat → Int32) (c : Nat) : Nat := (oc c).toNatClampNeg
noncomputable def ds_step (st jm : Nat → Int32) (s : ds_S) : ds_S :=
  @ite ds_S (ds_br (st (s.1 * 4))) (Classical.propDecidable _) (@ite Nat (s.2.1 (ds_a st s.1) = 0) (Classical.propDecidable _) (jm s.1).toNatClampNeg (s.1 + 1), s.2)
  (@ite ds_S (ds_jp (st (s.1 * 4))) (Classical.propDecidable _) ((jm s.1).toNatClampNeg, s.2)
  (@ite ds_S (st (s.1 * 4) = 12) (Classical.propDecidable _)
    (@ite ds_S (ds_cn s.2.2.2 (ds_a st s.1) < 16) (Classical.propDecidable _)
      (s.1 + 1, s.2.1, upd s.2.2.1 (ds_a st s.1 * 16 + ds_cn s.2.2.2 (ds_a st s.1)) (s.2.1 (ds_b st s.1)), upd s.2.2.2 (ds_a st s.1) (nI (ds_cn s.2.2.2 (ds_a st s.1) + 1)))
      (s.1 + 1, s.2))
    (s.1 + 1, upd s.2.1 (ds_a st s.1) (ds_val st s.2.1 s.1), s.2.2)))
theorem ds_step_b0 {st jm : Nat → Int32} {s : ds_S} (h : ds_br (st (s.1 * 4))) (g : s.2.1 (ds_a st s.1) = 0) : ds_step st jm s = ((jm s.1).toNatClampNeg, s.2) := by
  unfold ds_step
  rw [if_pos h, if_pos g]
theorem ds_step_b1 {st jm : Nat → Int32} {s : ds_S} (h : ds_br (st (s.1 * 4))) (g : ¬ s.2.1 (ds_a st s.1) = 0) : ds_step st jm s = (s.1 + 1, s.2) := by
  unfold ds_step
  rw [if_pos h, if_neg g]
theorem ds_step_j {st jm : Nat → Int32} {s : ds_S} (h0 : ¬ ds_br (st (s.1 * 4))) (h : ds_jp (st (s.1 * 4))) : ds_step st jm s = ((jm s.1).toNatClampNeg, s.2) := by
  unfold ds_step
  rw [if_neg h0, if_pos h]
theorem ds_step_o1 {st jm : Nat → Int32} {s : ds_S} (h0 : ¬ ds_br (st (s.1 * 4))) (h1 : ¬ ds_jp (st (s.1 * 4))) (h : st (s.1 * 4) = 12) (g : ds_cn s.2.2.2 (ds_a st s.1) < 16) : ds_step st jm s = (s.1 + 1, s.2.1, upd s.2.2.1 (ds_a st s.1 * 16 + ds_cn s.2.2.2 (ds_a st s.1)) (s.2.1 (ds_b st s.1)), upd s.2.2.2 (ds_a st s.1) (nI (ds_cn s.2.2.2 (ds_a st s.1) + 1))) := by
  unfold ds_step
  rw [if_neg h0, if_neg h1, if_pos h, if_pos g]
theorem ds_step_o0 {st jm : Nat → Int32} {s : ds_S} (h0 : ¬ ds_br (st (s.1 * 4))) (h1 : ¬ ds_jp (st (s.1 * 4))) (h : st (s.1 * 4) = 12) (g : ¬ ds_cn s.2.2.2 (ds_a st s.1) < 16) : ds_step st jm s = (s.1 + 1, s.2) := by
  unfold ds_step
  rw [if_neg h0, if_neg h1, if_pos h, if_neg g]
theorem ds_step_w {st jm : Nat → Int32} {s : ds_S} (h0 : ¬ ds_br (st (s.1 * 4))) (h1 : ¬ ds_jp (st (s.1 * 4))) (h : ¬ st (s.1 * 4) = 12) : ds_step st jm s = (s.1 + 1, upd s.2.1 (ds_a st s.1) (ds_val st s.2.1 s.1), s.2.2) := by
  unfold ds_step
  rw [if_neg h0, if_neg h1, if_neg h]
theorem ds_step_1 {st jm : Nat → Int32} {s : ds_S} (h0 : ¬ ds_br (st (s.1 * 4))) (h1 : ¬ ds_jp (st (s.1 * 4))) : (ds_step st jm s).1 = s.1 + 1 := by
  by_cases o : st (s.1 * 4) = 12
  · by_cases g : ds_cn s.2.2.2 (ds_a st s.1) < 16
    · rw [ds_step_o1 h0 h1 o g]
    · rw [ds_step_o0 h0 h1 o g]
  · rw [ds_step_w h0 h1 o]
theorem ds_next {st jm : Nat → Int32} {s : ds_S} {q e : Nat} (a1 : q ≤ s.1) (a2 : s.1 ≤ e) (h : (ds_br (st (s.1 * 4)) ∨ ds_jp (st (s.1 * 4))) → q ≤ (jm s.1).toNatClampNeg ∧ (jm s.1).toNatClampNeg ≤ e + 1) : q ≤ (ds_step st jm s).1 ∧ (ds_step st jm s).1 ≤ e + 1 := by
  by_cases b : ds_br (st (s.1 * 4))
  · by_cases g : s.2.1 (ds_a st s.1) = 0
    · rw [ds_step_b0 b g]
      exact h (Or.inl b)
    · rw [ds_step_b1 b g]
      show q ≤ s.1 + 1 ∧ s.1 + 1 ≤ e + 1
      omega
  · by_cases j : ds_jp (st (s.1 * 4))
    · rw [ds_step_j b j]
      exact h (Or.inr j)
    · rw [ds_step_1 b j]
      omega
/-- n steps, fewer where the end is reached -/
noncomputable def ds_run (st jm : Nat → Int32) (L : Nat) : Nat → ds_S → ds_S
  | 0, s => s
  | n + 1, s => if s.1 < L then ds_run st jm L n (ds_step st jm s) else s
theorem ds_run_s {st jm : Nat → Int32} {L n : Nat} {s : ds_S} (h : s.1 < L) : ds_run st jm L (n + 1) s = ds_run st jm L n (ds_step st jm s) := if_pos h
theorem ds_run_e {st jm : Nat → Int32} {L : Nat} {s : ds_S} (h : ¬ s.1 < L) : ∀ n, ds_run st jm L n s = s := by
  intro n
  cases n with
  | zero => rfl
  | succ n => exact if_neg h
theorem ds_run_add {st jm : Nat → Int32} {L : Nat} : ∀ n m s, ds_run st jm L (n + m) s = ds_run st jm L m (ds_run st jm L n s) := by
  intro n
  induction n with
  | zero => intro m s; rw [Nat.zero_add]; rfl
  | succ n ih =>
    intro m s
    by_cases h : s.1 < L
    · rw [ds_run_s h, show n + 1 + m = (n + m) + 1 by omega, ds_run_s h, ih]
    · rw [ds_run_e h, ds_run_e h, ds_run_e h]
/-! the observer: low variables lv, low channels lc -/
def ds_FW (st : Nat → Int32) (lv lc : Nat → Prop) (i : Nat) : Prop := ¬ ds_br (st (i * 4)) ∧ ¬ ds_jp (st (i * 4)) ∧ ((st (i * 4) = 12 ∧ lc (ds_a st i)) ∨ (¬ st (i * 4) = 12 ∧ lv (ds_a st i)))
def ds_ok (s : ds_S) : Prop := ∀ c, c < 4 → ∃ n, n ≤ 16 ∧ s.2.2.2 c = nI n
/-- low parts alike -/
def ds_LE (lv lc : Nat → Prop) (s t : ds_S) : Prop := (∀ v, lv v → s.2.1 v = t.2.1 v) ∧ (∀ c, c < 4 → lc c → s.2.2.2 c = t.2.2.2 c ∧ ∀ i, i < ds_cn s.2.2.2 c → s.2.2.1 (c * 16 + i) = t.2.2.1 (c * 16 + i))
theorem ds_LE_r (lv lc : Nat → Prop) (s : ds_S) : ds_LE lv lc s s := ⟨fun _ _ => rfl, fun _ _ _ => ⟨rfl, fun _ _ => rfl⟩⟩
theorem ds_LE_s {lv lc : Nat → Prop} {s t : ds_S} (h : ds_LE lv lc s t) : ds_LE lv lc t s := by
  refine ⟨fun v hv => (h.1 v hv).symm, fun c hc hl => ⟨(h.2 c hc hl).1.symm, fun i hi => ((h.2 c hc hl).2 i ?_).symm⟩⟩
  unfold ds_cn at hi ⊢
  rw [(h.2 c hc hl).1]
  exact hi
theorem ds_LE_t {lv lc : Nat → Prop} {s t u : ds_S} (h : ds_LE lv lc s t) (g : ds_LE lv lc t u) : ds_LE lv lc s u := by
  refine ⟨fun v hv => (h.1 v hv).trans (g.1 v hv), fun c hc hl => ⟨(h.2 c hc hl).1.trans (g.2 c hc hl).1, fun i hi => ((h.2 c hc hl).2 i hi).trans ((g.2 c hc hl).2 i ?_)⟩⟩
  unfold ds_cn at hi ⊢
  rw [← (h.2 c hc hl).1]
  exact hi
theorem ds_LE_q {lv lc : Nat → Prop} {s t : ds_S} (h : s.2 = t.2) : ds_LE lv lc s t := by
  unfold ds_LE
  rw [h]
  exact ⟨fun _ _ => rfl, fun _ _ _ => ⟨rfl, fun _ _ => rfl⟩⟩
/-- what the second run shows holds all that the first one shows -/
def ds_EX (s t : ds_S) : Prop := ∀ c, c < 4 → ds_cn s.2.2.2 c ≤ ds_cn t.2.2.2 c ∧ ∀ i, i < ds_cn s.2.2.2 c → t.2.2.1 (c * 16 + i) = s.2.2.1 (c * 16 + i)
theorem ds_EX_q {s t : ds_S} (h : t.2.2 = s.2.2) : ds_EX s t := by
  intro c _
  rw [h]
  exact ⟨Nat.le_refl _, fun _ _ => rfl⟩
theorem ds_EX_t {s t u : ds_S} (h : ds_EX s t) (g : ds_EX t u) : ds_EX s u := fun c hc => ⟨Nat.le_trans (h c hc).1 (g c hc).1, fun i hi => ((g c hc).2 i (Nat.lt_of_lt_of_le hi (h c hc).1)).trans ((h c hc).2 i hi)⟩
theorem ds_cn_16 {s : ds_S} (h : ds_ok s) {c : Nat} (hc : c < 4) : ds_cn s.2.2.2 c ≤ 16 := by
  obtain ⟨n, hn, e⟩ := h c hc
  unfold ds_cn
  rw [e, nI_clamp (by omega)]
  exact hn
theorem ds_cn_u {oc : Nat → Int32} {a n : Nat} (hn : n < 2 ^ 31) : ds_cn (upd oc a (nI n)) a = n := by
  unfold ds_cn
  rw [pk_us, nI_clamp hn]
theorem ds_cn_n {oc : Nat → Int32} {a c : Nat} {x : Int32} (h : c ≠ a) : ds_cn (upd oc a x) c = ds_cn oc c := by
  unfold ds_cn
  rw [pk_un h]
theorem ds_step_ok {st jm : Nat → Int32} {s : ds_S} (h : ds_ok s) : ds_ok (ds_step st jm s) := by
  by_cases b : ds_br (st (s.1 * 4))
  · by_cases g : s.2.1 (ds_a st s.1) = 0
    · rw [ds_step_b0 b g]; exact h
    · rw [ds_step_b1 b g]; exact h
  · by_cases j : ds_jp (st (s.1 * 4))
    · rw [ds_step_j b j]; exact h
    · by_cases o : st (s.1 * 4) = 12
      · by_cases g : ds_cn s.2.2.2 (ds_a st s.1) < 16
        · rw [ds_step_o1 b j o g]
          intro c hc
          show ∃ n, n ≤ 16 ∧ upd s.2.2.2 (ds_a st s.1) (nI (ds_cn s.2.2.2 (ds_a st s.1) + 1)) c = nI n
          by_cases e : c = ds_a st s.1
          · rw [e, pk_us]
            exact ⟨_, by omega, rfl⟩
          · rw [pk_un e]
            exact h c hc
        · rw [ds_step_o0 b j o g]; exact h
      · rw [ds_step_w b j o]; exact h
theorem ds_step_ex {st jm : Nat → Int32} {s : ds_S} (h : ds_ok s) : ds_EX s (ds_step st jm s) := by
  by_cases b : ds_br (st (s.1 * 4))
  · by_cases g : s.2.1 (ds_a st s.1) = 0
    · rw [ds_step_b0 b g]; exact ds_EX_q rfl
    · rw [ds_step_b1 b g]; exact ds_EX_q rfl
  · by_cases j : ds_jp (st (s.1 * 4))
    · rw [ds_step_j b j]; exact ds_EX_q rfl
    · by_cases o : st (s.1 * 4) = 12
      · by_cases g : ds_cn s.2.2.2 (ds_a st s.1) < 16
        · rw [ds_step_o1 b j o g]
          intro c hc
          have h16 := ds_cn_16 h hc
          show ds_cn s.2.2.2 c ≤ ds_cn (upd s.2.2.2 (ds_a st s.1) (nI (ds_cn s.2.2.2 (ds_a st s.1) + 1))) c ∧ ∀ i, i < ds_cn s.2.2.2 c → upd s.2.2.1 (ds_a st s.1 * 16 + ds_cn s.2.2.2 (ds_a st s.1)) (s.2.1 (ds_b st s.1)) (c * 16 + i) = s.2.2.1 (c * 16 + i)
          by_cases e : c = ds_a st s.1
          · rw [← e] at g ⊢
            rw [ds_cn_u (by omega)]
            exact ⟨by omega, fun i hi => pk_un (by omega)⟩
          · rw [ds_cn_n e]
            exact ⟨Nat.le_refl _, fun i hi => pk_un (by omega)⟩
        · rw [ds_step_o0 b j o g]; exact ds_EX_q rfl
      · rw [ds_step_w b j o]; exact ds_EX_q rfl
theorem ds_run_x {st jm : Nat → Int32} {L : Nat} : ∀ n s, ds_ok s → ds_ok (ds_run st jm L n s) ∧ ds_EX s (ds_run st jm L n s) := by
  intro n
  induction n with
  | zero => intro s h; exact ⟨h, ds_EX_q rfl⟩
  | succ n ih =>
    intro s h
    by_cases l : s.1 < L
    · rw [ds_run_s l]
      have i1 := ih _ (ds_step_ok (st := st) (jm := jm) h)
      exact ⟨i1.1, ds_EX_t (ds_step_ex h) i1.2⟩
    · rw [ds_run_e l]
      exact ⟨h, ds_EX_q rfl⟩
/-- a statement that writes nothing low changes nothing low -/
theorem ds_step_hi {st jm : Nat → Int32} {lv lc : Nat → Prop} {s : ds_S} (k : ds_ok s) (h : ¬ ds_FW st lv lc s.1) : ds_LE lv lc s (ds_step st jm s) := by
  by_cases b : ds_br (st (s.1 * 4))
  · by_cases g : s.2.1 (ds_a st s.1) = 0
    · rw [ds_step_b0 b g]; exact ds_LE_q rfl
    · rw [ds_step_b1 b g]; exact ds_LE_q rfl
  · by_cases j : ds_jp (st (s.1 * 4))
    · rw [ds_step_j b j]; exact ds_LE_q rfl
    · by_cases o : st (s.1 * 4) = 12
      · by_cases g : ds_cn s.2.2.2 (ds_a st s.1) < 16
        · rw [ds_step_o1 b j o g]
          have nl : ¬ lc (ds_a st s.1) := fun z => h ⟨b, j, Or.inl ⟨o, z⟩⟩
          refine ⟨fun v _ => rfl, fun c hc hl => ?_⟩
          have e : c ≠ ds_a st s.1 := fun z => nl (z ▸ hl)
          have h16 := ds_cn_16 k hc
          exact ⟨(pk_un e).symm, fun i hi => (pk_un (by omega)).symm⟩
        · rw [ds_step_o0 b j o g]; exact ds_LE_q rfl
      · rw [ds_step_w b j o]
        have nl : ¬ lv (ds_a st s.1) := fun z => h ⟨b, j, Or.inr ⟨o, z⟩⟩
        refine ⟨fun v hv => ?_, fun _ _ _ => ⟨rfl, fun _ _ => rfl⟩⟩
        have e : v ≠ ds_a st s.1 := fun z => nl (z ▸ hv)
        exact (pk_un e).symm
/-! what a passed check says of the program -/
def ds_F1 (st : Nat → Int32) (lv lc : Nat → Prop) (i : Nat) : Prop := ds_FW st lv lc i → (¬ st (i * 4) = 1 → lv (ds_b st i)) ∧ ((st (i * 4) = 3 ∨ st (i * 4) = 4 ∨ st (i * 4) = 5 ∨ st (i * 4) = 6 ∨ st (i * 4) = 7) → lv (ds_c st i))
def ds_F3 (st jm : Nat → Int32) (L : Nat) (lv lc : Nat → Prop) (q : Nat) : Prop := ds_br (st (q * 4)) → ∃ e, q < e ∧ e < L ∧ (∀ i, q ≤ i → i ≤ e → (ds_br (st (i * 4)) ∨ ds_jp (st (i * 4))) → q ≤ (jm i).toNatClampNeg ∧ (jm i).toNatClampNeg ≤ e + 1) ∧ (¬ lv (ds_a st q) → ∀ i, q ≤ i → i ≤ e → ¬ ds_FW st lv lc i)
def ds_F (st jm : Nat → Int32) (L : Nat) (lv lc : Nat → Prop) : Prop := (∀ i, i < L → ds_F1 st lv lc i) ∧ (∀ q, q < L → ds_F3 st jm L lv lc q)
theorem ds_val_e {st va va' : Nat → Int32} {i : Nat} (h1 : ¬ st (i * 4) = 1 → va (ds_b st i) = va' (ds_b st i)) (h2 : (st (i * 4) = 3 ∨ st (i * 4) = 4 ∨ st (i * 4) = 5 ∨ st (i * 4) = 6 ∨ st (i * 4) = 7) → va (ds_c st i) = va' (ds_c st i)) : ds_val st va i = ds_val st va' i := by
  unfold ds_val
  by_cases k1 : st (i * 4) = 1
  · rw [if_pos k1, if_pos k1]
  · rw [if_neg k1, if_neg k1, h1 k1]
    by_cases k3 : st (i * 4) = 3
    · rw [if_pos k3, if_pos k3, h2 (Or.inl k3)]
    · rw [if_neg k3, if_neg k3]
      by_cases k4 : st (i * 4) = 4
      · rw [if_pos k4, if_pos k4, h2 (Or.inr (Or.inl k4))]
      · rw [if_neg k4, if_neg k4]
        by_cases k5 : st (i * 4) = 5
        · rw [if_pos k5, if_pos k5, h2 (Or.inr (Or.inr (Or.inl k5)))]
        · rw [if_neg k5, if_neg k5]
          by_cases k6 : st (i * 4) = 6
          · rw [if_pos k6, if_pos k6, h2 (Or.inr (Or.inr (Or.inr (Or.inl k6))))]
          · rw [if_neg k6, if_neg k6]
            by_cases k7 : st (i * 4) = 7
            · rw [if_pos k7, if_pos k7, h2 (Or.inr (Or.inr (Or.inr (Or.inr k7))))]
            · rw [if_neg k7, if_neg k7]
/-- two low-alike states at one place, where no high guard stands: one step keeps them so -/
theorem ds_step_lo {st jm : Nat → Int32} {lv lc : Nat → Prop} {s t : ds_S} (hl4 : ∀ c, lc c → c < 4) (ks : ds_ok s) (kt : ds_ok t) (eq : s.1 = t.1) (h : ds_LE lv lc s t) (f : ds_F1 st lv lc s.1) (g : ds_br (st (s.1 * 4)) → lv (ds_a st s.1)) : (ds_step st jm s).1 = (ds_step st jm t).1 ∧ ds_LE lv lc (ds_step st jm s) (ds_step st jm t) := by
  by_cases b : ds_br (st (s.1 * 4))
  · have bt : ds_br (st (t.1 * 4)) := by rw [← eq]; exact b
    have eg : s.2.1 (ds_a st s.1) = t.2.1 (ds_a st t.1) := by rw [← eq]; exact h.1 _ (g b)
    by_cases z : s.2.1 (ds_a st s.1) = 0
    · rw [ds_step_b0 b z, ds_step_b0 bt (eg ▸ z)]
      exact ⟨by show (jm s.1).toNatClampNeg = (jm t.1).toNatClampNeg; rw [eq], h⟩
    · rw [ds_step_b1 b z, ds_step_b1 bt (eg ▸ z)]
      exact ⟨by show s.1 + 1 = t.1 + 1; rw [eq], h⟩
  · have bt : ¬ ds_br (st (t.1 * 4)) := by rw [← eq]; exact b
    by_cases j : ds_jp (st (s.1 * 4))
    · have jt : ds_jp (st (t.1 * 4)) := by rw [← eq]; exact j
      rw [ds_step_j b j, ds_step_j bt jt]
      exact ⟨by show (jm s.1).toNatClampNeg = (jm t.1).toNatClampNeg; rw [eq], h⟩
    · by_cases fw : ds_FW st lv lc s.1
      · have jt : ¬ ds_jp (st (t.1 * 4)) := by rw [← eq]; exact j
        have f1 := f fw
        by_cases o : st (s.1 * 4) = 12
        · have ot : st (t.1 * 4) = 12 := by rw [← eq]; exact o
          have la : lc (ds_a st s.1) := by
            rcases fw.2.2 with w | w
            · exact w.2
            · exact absurd o w.1
          have lb : lv (ds_b st s.1) := f1.1 (by rw [o]; decide)
          have ec : ∀ c, c < 4 → lc c → ds_cn s.2.2.2 c = ds_cn t.2.2.2 c := by
            intro c hc hl
            unfold ds_cn
            rw [(h.2 c hc hl).1]
          have a4 := hl4 _ la
          have ea := ec _ a4 la
          by_cases z : ds_cn s.2.2.2 (ds_a st s.1) < 16
          · rw [ds_step_o1 b j o z, ds_step_o1 bt jt ot (by rw [← eq, ← ea]; exact z), ← eq, ← ea, ← h.1 _ lb]
            refine ⟨rfl, h.1, fun c hc hl => ?_⟩
            have h16 := ds_cn_16 ks hc
            have hh := h.2 c hc hl
            by_cases e : c = ds_a st s.1
            · subst e
              refine ⟨by show upd _ _ _ _ = upd _ _ _ _; rw [pk_us, pk_us], fun i hi => ?_⟩
              have hi2 : i < ds_cn s.2.2.2 (ds_a st s.1) + 1 := by
                have w : ds_cn (upd s.2.2.2 (ds_a st s.1) (nI (ds_cn s.2.2.2 (ds_a st s.1) + 1))) (ds_a st s.1) = ds_cn s.2.2.2 (ds_a st s.1) + 1 := ds_cn_u (by omega)
                rw [← w]
                exact hi
              show upd s.2.2.1 _ _ _ = upd t.2.2.1 _ _ _
              by_cases x : i = ds_cn s.2.2.2 (ds_a st s.1)
              · rw [x, pk_us, pk_us]
              · rw [pk_un (by omega), pk_un (by omega)]
                exact hh.2 i (by omega)
            · refine ⟨by show upd _ _ _ _ = upd _ _ _ _; rw [pk_un e, pk_un e]; exact hh.1, fun i hi => ?_⟩
              have hi2 : i < ds_cn s.2.2.2 c := by
                have w := ds_cn_n (oc := s.2.2.2) (x := nI (ds_cn s.2.2.2 (ds_a st s.1) + 1)) e
                rw [← w]
                exact hi
              show upd s.2.2.1 _ _ _ = upd t.2.2.1 _ _ _
              rw [pk_un (by omega), pk_un (by omega)]
              exact hh.2 i hi2
          · rw [ds_step_o0 b j o z, ds_step_o0 bt jt ot (by rw [← eq, ← ea]; exact z)]
            exact ⟨by show s.1 + 1 = t.1 + 1; rw [eq], h⟩
        · have ot : ¬ st (t.1 * 4) = 12 := by rw [← eq]; exact o
          have la : lv (ds_a st s.1) := by
            rcases fw.2.2 with w | w
            · exact absurd w.1 o
            · exact w.2
          have ev : ds_val st s.2.1 s.1 = ds_val st t.2.1 s.1 := ds_val_e (fun z => h.1 _ (f1.1 z)) (fun z => h.1 _ (f1.2 z))
          rw [ds_step_w b j o, ds_step_w bt jt ot, ← eq, ← ev]
          refine ⟨rfl, fun v hv => ?_, h.2⟩
          show upd s.2.1 (ds_a st s.1) _ v = upd t.2.1 (ds_a st s.1) _ v
          by_cases e : v = ds_a st s.1
          · rw [e, pk_us, pk_us]
          · rw [pk_un e, pk_un e]
            exact h.1 v hv
      · have ft : ¬ ds_FW st lv lc t.1 := by rw [← eq]; exact fw
        have jt : ¬ ds_jp (st (t.1 * 4)) := by rw [← eq]; exact j
        refine ⟨?_, ds_LE_t (ds_LE_s (ds_step_hi ks fw)) (ds_LE_t h (ds_step_hi kt ft))⟩
        rw [ds_step_1 b j, ds_step_1 bt jt, eq]
/-- in a block without low writes: out behind its end, or still inside -/
theorem ds_region {st jm : Nat → Int32} {lv lc : Nat → Prop} {L q e : Nat} (he : e < L) (h1 : ∀ i, q ≤ i → i ≤ e → (ds_br (st (i * 4)) ∨ ds_jp (st (i * 4))) → q ≤ (jm i).toNatClampNeg ∧ (jm i).toNatClampNeg ≤ e + 1) (h2 : ∀ i, q ≤ i → i ≤ e → ¬ ds_FW st lv lc i) : ∀ n s, ds_ok s → q ≤ s.1 → s.1 ≤ e → (∃ k, 1 ≤ k ∧ k ≤ n ∧ (ds_run st jm L k s).1 = e + 1 ∧ ds_LE lv lc s (ds_run st jm L k s)) ∨ ((ds_run st jm L n s).1 ≤ e ∧ ds_LE lv lc s (ds_run st jm L n s)) := by
  intro n
  induction n with
  | zero => intro s _ _ he2; exact Or.inr ⟨he2, ds_LE_r _ _ _⟩
  | succ n ih =>
    intro s ks a1 a2
    have l : s.1 < L := by omega
    have hl := ds_step_hi (jm := jm) ks (h2 s.1 a1 a2)
    have nx := ds_next (jm := jm) (q := q) (e := e) a1 a2 (h1 s.1 a1 a2)
    have ok := ds_step_ok (st := st) (jm := jm) ks
    by_cases x : (ds_step st jm s).1 = e + 1
    · refine Or.inl ⟨1, by omega, by omega, ?_, ?_⟩
      · rw [ds_run_s l]; exact x
      · rw [ds_run_s l]; exact hl
    · rcases ih _ ok nx.1 (by omega) with ⟨k, k1, k2, k3, k4⟩ | ⟨k3, k4⟩
      · refine Or.inl ⟨k + 1, by omega, by omega, ?_, ?_⟩
        · rw [ds_run_s l]; exact k3
        · rw [ds_run_s l]; exact ds_LE_t hl k4
      · refine Or.inr ⟨?_, ?_⟩
        · rw [ds_run_s l]; exact k3
        · rw [ds_run_s l]; exact ds_LE_t hl k4
/-- what the law compares -/
def ds_R (L : Nat) (lc : Nat → Prop) (s t : ds_S) : Prop := ∀ c, c < 4 → lc c → (∀ i, i < ds_cn s.2.2.2 c → i < ds_cn t.2.2.2 c → s.2.2.1 (c * 16 + i) = t.2.2.1 (c * 16 + i)) ∧ (¬ s.1 < L → ¬ t.1 < L → s.2.2.2 c = t.2.2.2 c)
theorem ds_R_s {L : Nat} {lc : Nat → Prop} {s t : ds_S} (h : ds_R L lc s t) : ds_R L lc t s := fun c hc hl => ⟨fun i a b => ((h c hc hl).1 i b a).symm, fun a b => ((h c hc hl).2 b a).symm⟩
/-- s' shows what s shows, and hasn't halted; t' shows more than t, which is like s -/
theorem ds_R_1 {L : Nat} {lv lc : Nat → Prop} {s s' t t' : ds_S} (h : ds_LE lv lc s t) (h1 : ds_LE lv lc s s') (h2 : ds_EX t t') (h3 : s'.1 < L) : ds_R L lc s' t' := by
  have g := ds_LE_t (ds_LE_s h1) h
  intro c hc hl
  refine ⟨fun i a b => ?_, fun a => absurd h3 a⟩
  have a' : i < ds_cn t.2.2.2 c := by
    unfold ds_cn at a ⊢
    rw [← (g.2 c hc hl).1]
    exact a
  exact ((g.2 c hc hl).2 i a).trans ((h2 c hc).2 i a').symm
theorem ds_R_0 {L : Nat} {lv lc : Nat → Prop} {s t : ds_S} (h : ds_LE lv lc s t) : ds_R L lc s t := fun c hc hl => ⟨fun i a _ => (h.2 c hc hl).2 i a, fun _ _ => (h.2 c hc hl).1⟩
theorem ds_main {st jm : Nat → Int32} {L : Nat} {lv lc : Nat → Prop} (hl4 : ∀ c, lc c → c < 4) (F : ds_F st jm L lv lc) : ∀ N n m s t, n + m ≤ N → ds_ok s → ds_ok t → s.1 = t.1 → ds_LE lv lc s t → ds_R L lc (ds_run st jm L n s) (ds_run st jm L m t) := by
  intro N
  induction N with
  | zero =>
    intro n m s t hN ks kt eq h
    have e1 : n = 0 := by omega
    have e2 : m = 0 := by omega
    subst e1 e2
    exact ds_R_0 h
  | succ N ih =>
    intro n m s t hN ks kt eq h
    by_cases l : s.1 < L
    · have lt : t.1 < L := by omega
      rcases Nat.eq_zero_or_pos n with n0 | n0
      · subst n0
        exact ds_R_1 h (ds_LE_r _ _ _) (ds_run_x m t kt).2 l
      · rcases Nat.eq_zero_or_pos m with m0 | m0
        · subst m0
          exact ds_R_s (ds_R_1 (ds_LE_s h) (ds_LE_r _ _ _) (ds_run_x n s ks).2 lt)
        · by_cases g : ds_br (st (s.1 * 4)) ∧ ¬ lv (ds_a st s.1)
          · obtain ⟨e, e1, e2, e3, e4⟩ := F.2 s.1 l g.1
            have e5 := e4 g.2
            rcases ds_region e2 e3 e5 n s ks (Nat.le_refl _) (by omega) with ⟨k, k1, k2, k3, k4⟩ | ⟨k3, k4⟩
            · rcases ds_region e2 e3 e5 m t kt (by omega) (by omega) with ⟨k', k1', k2', k3', k4'⟩ | ⟨k3', k4'⟩
              · have i1 := ih (n - k) (m - k') _ _ (by omega) (ds_run_x (st := st) (jm := jm) (L := L) k s ks).1 (ds_run_x (st := st) (jm := jm) (L := L) k' t kt).1 (k3.trans k3'.symm) (ds_LE_t (ds_LE_s k4) (ds_LE_t h k4'))
                rw [← ds_run_add, ← ds_run_add, show k + (n - k) = n by omega, show k' + (m - k') = m by omega] at i1
                exact i1
              · exact ds_R_s (ds_R_1 (ds_LE_s h) k4' (ds_run_x n s ks).2 (by omega))
            · exact ds_R_1 h k4 (ds_run_x m t kt).2 (by omega)
          · have g' : ds_br (st (s.1 * 4)) → lv (ds_a st s.1) := fun z => Classical.byContradiction fun w => g ⟨z, w⟩
            obtain ⟨n', rfl⟩ : ∃ n', n = n' + 1 := ⟨n - 1, by omega⟩
            obtain ⟨m', rfl⟩ : ∃ m', m = m' + 1 := ⟨m - 1, by omega⟩
            have sl := ds_step_lo (jm := jm) hl4 ks kt eq h (F.1 s.1 l) g'
            rw [ds_run_s l, ds_run_s lt]
            exact ih n' m' _ _ (by omega) (ds_step_ok ks) (ds_step_ok kt) sl.1 sl.2
    · have lt : ¬ t.1 < L := by omega
      rw [ds_run_e l, ds_run_e lt]
      exact ds_R_0 h
end
section
/-! what a check keeps while it scans: blocks, jumps, low writes; no print in this part -/
def ds_ct (st : Nat → Int32) (q : Nat) : Prop := ds_br (st (q * 4)) ∨ ds_jp (st (q * 4))
def ds_on (op : Nat → Int32) (d : Nat) : Nat := (op d).toNatClampNeg
def ds_cl (st : Nat → Int32) (lv lc : Nat → Prop) (i D : Nat) (op el jm : Nat → Int32) (q : Nat) : Prop := ∃ e, q < e ∧ e < i ∧ (∀ d, d < D → ¬ (q ≤ ds_on op d ∧ ds_on op d ≤ e) ∧ ∀ m, el d = nI m → ¬ (q ≤ m ∧ m ≤ e)) ∧ (∀ j, q ≤ j → j ≤ e → ds_ct st j → ∃ r, jm j = nI r ∧ q ≤ r ∧ r ≤ e + 1) ∧ (¬ lv (ds_a st q) → ∀ j, q ≤ j → j ≤ e → ¬ ds_FW st lv lc j)
def ds_N (st : Nat → Int32) (lv lc : Nat → Prop) (i D : Nat) (op el jm : Nat → Int32) : Prop :=
  (∀ d, d < D → op d = nI (ds_on op d) ∧ ds_on op d < i ∧ ds_br (st (ds_on op d * 4)))
  ∧ (∀ d d', d < d' → d' < D → ds_on op d < ds_on op d')
  ∧ (∀ d, d < D → el d = -1 ∨ ∃ m, el d = nI m ∧ ds_on op d < m ∧ m < i ∧ ∀ d', d < d' → d' < D → m < ds_on op d')
  ∧ (∀ q, q < i → ds_ct st q → (∃ d, d < D ∧ (ds_on op d = q ∨ el d = nI q)) ∨ ∃ r, jm q = nI r ∧ r ≤ i ∧ ∀ d, d < D → ds_on op d ≤ q → ds_on op d ≤ r)
  ∧ (∀ q, q < i → ds_br (st (q * 4)) → (∃ d, d < D ∧ ds_on op d = q) ∨ ds_cl st lv lc i D op el jm q)
  ∧ (∀ d, d < D → ¬ lv (ds_a st (ds_on op d)) → ∀ j, ds_on op d ≤ j → j < i → ¬ ds_FW st lv lc j)
  ∧ (∀ j, j < i → ds_F1 st lv lc j)
theorem ds_m1 {m : Nat} (h : m < 2 ^ 31) : ¬ (-1 : Int32) = nI m := by
  intro z
  have t := congrArg Int32.toInt z
  rw [nI_toInt h] at t
  have e : (-1 : Int32).toInt = -1 := by decide
  omega
theorem ds_nFW_c {st : Nat → Int32} {lv lc : Nat → Prop} {i : Nat} (h : ds_ct st i) : ¬ ds_FW st lv lc i := fun z => h.elim z.1 z.2.1
theorem ds_N0 (st : Nat → Int32) (lv lc : Nat → Prop) (op el jm : Nat → Int32) : ds_N st lv lc 0 0 op el jm := ⟨fun d h => absurd h (by omega), fun d d' _ h => absurd h (by omega), fun d h => absurd h (by omega), fun q h => absurd h (by omega), fun q h => absurd h (by omega), fun d h => absurd h (by omega), fun j h => absurd h (by omega)⟩
theorem ds_cl_up {st : Nat → Int32} {lv lc : Nat → Prop} {i D : Nat} {op el jm : Nat → Int32} {q : Nat} (h : ds_cl st lv lc i D op el jm q) : ds_cl st lv lc (i + 1) D op el jm q := by
  obtain ⟨e, e1, e2, e3, e4, e5⟩ := h
  exact ⟨e, e1, by omega, e3, e4, e5⟩
theorem ds_N_n {st : Nat → Int32} {lv lc : Nat → Prop} {i D : Nat} {op el jm : Nat → Int32} (N : ds_N st lv lc i D op el jm) (k : ¬ ds_ct st i) (f1 : ds_F1 st lv lc i) (fw : ∀ d, d < D → ¬ lv (ds_a st (ds_on op d)) → ¬ ds_FW st lv lc i) : ds_N st lv lc (i + 1) D op el jm := by
  obtain ⟨a1, a2, a3, a4, a5, a6, a7⟩ := N
  refine ⟨fun d hd => ⟨(a1 d hd).1, by have := (a1 d hd).2.1; omega, (a1 d hd).2.2⟩, a2, fun d hd => ?_, fun q hq hc => ?_, fun q hq hb => ?_, fun d hd hl j j1 j2 => ?_, fun j hj => ?_⟩
  · rcases a3 d hd with z | ⟨m, m1, m2, m3, m4⟩
    · exact Or.inl z
    · exact Or.inr ⟨m, m1, m2, by omega, m4⟩
  · by_cases e : q = i
    · subst e
      exact absurd hc k
    · rcases a4 q (by omega) hc with z | ⟨r, r1, r2, r3⟩
      · exact Or.inl z
      · exact Or.inr ⟨r, r1, by omega, r3⟩
  · by_cases e : q = i
    · subst e
      exact absurd (Or.inl hb) k
    · rcases a5 q (by omega) hb with z | z
      · exact Or.inl z
      · exact Or.inr (ds_cl_up z)
  · by_cases e : j = i
    · subst e
      exact fw d hd hl
    · exact a6 d hd hl j j1 (by omega)
  · by_cases e : j = i
    · subst e
      exact f1
    · exact a7 j (by omega)
theorem ds_N_o {st : Nat → Int32} {lv lc : Nat → Prop} {i D : Nat} {op el jm : Nat → Int32} (hi : i < 2 ^ 31) (N : ds_N st lv lc i D op el jm) (k : ds_br (st (i * 4))) : ds_N st lv lc (i + 1) (D + 1) (upd op D (nI i)) (upd el D (-1)) jm := by
  obtain ⟨a1, a2, a3, a4, a5, a6, a7⟩ := N
  have u0 : ∀ d, d < D → upd op D (nI i) d = op d := fun d hd => if_neg (by omega)
  have u1 : ∀ d, d < D → ds_on (upd op D (nI i)) d = ds_on op d := fun d hd => by
    unfold ds_on
    rw [u0 d hd]
  have u2 : ∀ d, d < D → upd el D (-1) d = el d := fun d hd => if_neg (by omega)
  have u3 : upd op D (nI i) D = nI i := if_pos rfl
  have u4 : upd el D (-1) D = -1 := if_pos rfl
  have u5 : ds_on (upd op D (nI i)) D = i := by
    unfold ds_on
    rw [u3, nI_clamp hi]
  have nf : ¬ ds_FW st lv lc i := ds_nFW_c (Or.inl k)
  have hD : ∀ d, d < D + 1 → d < D ∨ d = D := fun d hd => by omega
  refine ⟨fun d hd => ?_, fun d d' h1 h2 => ?_, fun d hd => ?_, fun q hq hc => ?_, fun q hq hb => ?_, fun d hd hl j j1 j2 => ?_, fun j hj => ?_⟩
  · rcases hD d hd with h | h
    · rw [u1 d h, u0 d h]
      exact ⟨(a1 d h).1, by have := (a1 d h).2.1; omega, (a1 d h).2.2⟩
    · subst h
      rw [u5, u3]
      exact ⟨rfl, by omega, k⟩
  · rcases hD d' h2 with h | h
    · rw [u1 d (by omega), u1 d' h]
      exact a2 d d' h1 h
    · subst h
      rw [u1 d h1, u5]
      exact (a1 d h1).2.1
  · rcases hD d hd with h | h
    · rw [u2 d h, u1 d h]
      rcases a3 d h with z | ⟨m, m1, m2, m3, m4⟩
      · exact Or.inl z
      · refine Or.inr ⟨m, m1, m2, by omega, fun d' h1 h2 => ?_⟩
        rcases hD d' h2 with h' | h'
        · rw [u1 d' h']
          exact m4 d' h1 h'
        · subst h'
          rw [u5]
          exact m3
    · subst h
      exact Or.inl u4
  · by_cases e : q = i
    · subst e
      exact Or.inl ⟨D, by omega, Or.inl u5⟩
    · rcases a4 q (by omega) hc with ⟨d, d1, d2⟩ | ⟨r, r1, r2, r3⟩
      · exact Or.inl ⟨d, by omega, by rw [u1 d d1, u2 d d1]; exact d2⟩
      · refine Or.inr ⟨r, r1, by omega, fun d hd => ?_⟩
        rcases hD d hd with h | h
        · rw [u1 d h]
          exact r3 d h
        · subst h
          rw [u5]
          intro z
          omega
  · by_cases e : q = i
    · subst e
      exact Or.inl ⟨D, by omega, u5⟩
    · rcases a5 q (by omega) hb with ⟨d, d1, d2⟩ | ⟨e, e1, e2, e3, e4, e5⟩
      · exact Or.inl ⟨d, by omega, by rw [u1 d d1]; exact d2⟩
      · refine Or.inr ⟨e, e1, by omega, fun d hd => ?_, e4, e5⟩
        rcases hD d hd with h | h
        · rw [u1 d h, u2 d h]
          exact e3 d h
        · subst h
          rw [u5, u4]
          exact ⟨fun z => by omega, fun m hm z => ds_m1 (by omega) hm⟩
  · by_cases e : j = i
    · subst e
      exact nf
    · rcases hD d hd with h | h
      · rw [u1 d h] at hl j1
        exact a6 d h hl j j1 (by omega)
      · subst h
        rw [u5] at j1
        omega
  · by_cases e : j = i
    · subst e
      exact fun z => absurd z nf
    · exact a7 j (by omega)
theorem ds_N_e {st : Nat → Int32} {lv lc : Nat → Prop} {i D : Nat} {op el jm : Nat → Int32} (hi : i < 2 ^ 31) (N : ds_N st lv lc i (D + 1) op el jm) (k : st (i * 4) = 9) (hn : el D = -1) : ds_N st lv lc (i + 1) (D + 1) op (upd el D (nI i)) jm := by
  obtain ⟨a1, a2, a3, a4, a5, a6, a7⟩ := N
  have u2 : ∀ d, d < D → upd el D (nI i) d = el d := fun d hd => if_neg (by omega)
  have u4 : upd el D (nI i) D = nI i := if_pos rfl
  have nb : ¬ ds_br (st (i * 4)) := by
    rw [k]
    unfold ds_br
    decide
  have nf : ¬ ds_FW st lv lc i := ds_nFW_c (Or.inr (Or.inl k))
  have hD : ∀ d, d < D + 1 → d < D ∨ d = D := fun d hd => by omega
  refine ⟨fun d hd => ⟨(a1 d hd).1, by have := (a1 d hd).2.1; omega, (a1 d hd).2.2⟩, a2, fun d hd => ?_, fun q hq hc => ?_, fun q hq hb => ?_, fun d hd hl j j1 j2 => ?_, fun j hj => ?_⟩
  · rcases hD d hd with h | h
    · rw [u2 d h]
      rcases a3 d hd with z | ⟨m, m1, m2, m3, m4⟩
      · exact Or.inl z
      · exact Or.inr ⟨m, m1, m2, by omega, m4⟩
    · subst h
      exact Or.inr ⟨i, u4, (a1 d hd).2.1, by omega, fun d' h1 h2 => by omega⟩
  · by_cases e : q = i
    · subst e
      exact Or.inl ⟨D, by omega, Or.inr u4⟩
    · rcases a4 q (by omega) hc with ⟨d, d1, d2⟩ | ⟨r, r1, r2, r3⟩
      · rcases hD d d1 with h | h
        · exact Or.inl ⟨d, d1, by rw [u2 d h]; exact d2⟩
        · subst h
          rcases d2 with z | z
          · exact Or.inl ⟨d, d1, Or.inl z⟩
          · rw [hn] at z
            exact absurd z (ds_m1 (by omega))
      · exact Or.inr ⟨r, r1, by omega, r3⟩
  · by_cases e : q = i
    · subst e
      exact absurd hb nb
    · rcases a5 q (by omega) hb with z | ⟨e, e1, e2, e3, e4, e5⟩
      · exact Or.inl z
      · refine Or.inr ⟨e, e1, by omega, fun d hd => ⟨(e3 d hd).1, ?_⟩, e4, e5⟩
        rcases hD d hd with h | h
        · rw [u2 d h]
          exact (e3 d hd).2
        · subst h
          rw [u4]
          intro m hm z
          have t := (nI_eq (by omega) (by omega)).mp hm
          omega
  · by_cases e : j = i
    · subst e
      exact nf
    · exact a6 d hd hl j j1 (by omega)
  · by_cases e : j = i
    · subst e
      exact fun z => absurd z nf
    · exact a7 j (by omega)
/-- closing the innermost block at an END -/
theorem ds_N_x {st : Nat → Int32} {lv lc : Nat → Prop} {i D : Nat} {op el jm jm' : Nat → Int32} (hi : i < 2 ^ 31) (N : ds_N st lv lc i (D + 1) op el jm) (k : st (i * 4) = 10) (h1 : ∃ r, jm' i = nI r ∧ ds_on op D ≤ r ∧ r ≤ i + 1) (h2 : ∃ r, jm' (ds_on op D) = nI r ∧ ds_on op D ≤ r ∧ r ≤ i + 1) (h3 : ∀ m, m < i → el D = nI m → ∃ r, jm' m = nI r ∧ ds_on op D ≤ r ∧ r ≤ i + 1) (h4 : ∀ j, j < i → ¬ ds_on op D = j → ¬ el D = nI j → jm' j = jm j) : ds_N st lv lc (i + 1) D op el jm' := by
  obtain ⟨a1, a2, a3, a4, a5, a6, a7⟩ := N
  have oD := a1 D (by omega)
  have nb : ¬ ds_br (st (i * 4)) := by
    rw [k]
    unfold ds_br
    decide
  have nf : ¬ ds_FW st lv lc i := ds_nFW_c (Or.inr (Or.inr k))
  have hD : ∀ d, d < D + 1 → d < D ∨ d = D := fun d hd => by omega
  have lt : ∀ d, d < D → ds_on op d < ds_on op D := fun d hd => a2 d D hd (by omega)
  have el' : ∀ d, d < D → ∀ m, m < i → el d = nI m → m < ds_on op D := by
    intro d hd m hm z
    rcases a3 d (by omega) with w | ⟨m', m1, m2, m3, m4⟩
    · rw [w] at z
      exact absurd z (ds_m1 (by omega))
    · rw [m1] at z
      have t := (nI_eq (by omega) (by omega)).mp z
      have t2 := m4 D hd (by omega)
      omega
  refine ⟨fun d hd => ?_, fun d d' x y => a2 d d' x (by omega), fun d hd => ?_, fun q hq hc => ?_, fun q hq hb => ?_, fun d hd hl j j1 j2 => ?_, fun j hj => ?_⟩
  · have t := a1 d (by omega)
    exact ⟨t.1, by omega, t.2.2⟩
  · rcases a3 d (by omega) with z | ⟨m, m1, m2, m3, m4⟩
    · exact Or.inl z
    · exact Or.inr ⟨m, m1, m2, by omega, fun d' x y => m4 d' x (by omega)⟩
  · have fin : (∃ r, jm' q = nI r ∧ ds_on op D ≤ r ∧ r ≤ i + 1) → ∃ r, jm' q = nI r ∧ r ≤ i + 1 ∧ ∀ d, d < D → ds_on op d ≤ q → ds_on op d ≤ r := by
      rintro ⟨r, r1, r2, r3⟩
      exact ⟨r, r1, r3, fun d hd _ => by have := lt d hd; omega⟩
    by_cases e : q = i
    · subst e
      exact Or.inr (fin h1)
    · by_cases e2 : ds_on op D = q
      · exact Or.inr (fin (e2 ▸ h2))
      · by_cases e3 : el D = nI q
        · exact Or.inr (fin (h3 q (by omega) e3))
        · rw [h4 q (by omega) e2 e3]
          rcases a4 q (by omega) hc with ⟨d, d1, d2⟩ | ⟨r, r1, r2, r3⟩
          · rcases hD d d1 with h | h
            · exact Or.inl ⟨d, h, d2⟩
            · subst h
              exact absurd d2 (fun z => z.elim e2 e3)
          · exact Or.inr ⟨r, r1, by omega, fun d hd => r3 d (by omega)⟩
  · by_cases e : q = i
    · subst e
      exact absurd hb nb
    · by_cases e2 : ds_on op D = q
      · subst e2
        refine Or.inr ⟨i, oD.2.1, by omega, fun d hd => ⟨fun z => ?_, fun m hm z => ?_⟩, fun j j1 j2 hc => ?_, fun hl j j1 j2 => ?_⟩
        · have := lt d hd
          omega
        · rcases a3 d (by omega) with w | ⟨m', m1, m2, m3, m4⟩
          · rw [w] at hm
            exact absurd hm (ds_m1 (by omega))
          · rw [m1] at hm
            have t := (nI_eq (by omega) (by omega)).mp hm
            have t2 := m4 D hd (by omega)
            omega
        · by_cases f : j = i
          · subst f
            exact h1
          · by_cases f2 : ds_on op D = j
            · rw [← f2]
              exact h2
            · by_cases f3 : el D = nI j
              · exact h3 j (by omega) f3
              · rw [h4 j (by omega) f2 f3]
                rcases a4 j (by omega) hc with ⟨d, d1, d2⟩ | ⟨r, r1, r2, r3⟩
                · rcases hD d d1 with h | h
                  · have l1 := lt d h
                    rcases d2 with z | z
                    · omega
                    · have l2 := el' d h j (by omega) z
                      omega
                  · subst h
                    exact absurd d2 (fun z => z.elim f2 f3)
                · exact ⟨r, r1, r3 D (by omega) j1, by omega⟩
        · by_cases f : j = i
          · subst f
            exact nf
          · exact a6 D (by omega) hl j j1 (by omega)
      · rcases a5 q (by omega) hb with ⟨d, d1, d2⟩ | ⟨e', e1, e2', e3, e4, e5⟩
        · rcases hD d d1 with h | h
          · exact Or.inl ⟨d, h, d2⟩
          · subst h
            exact absurd d2 e2
        · refine Or.inr ⟨e', e1, by omega, fun d hd => e3 d (by omega), fun j j1 j2 hc => ?_, e5⟩
          have w := e3 D (by omega)
          rw [h4 j (by omega) (fun z => w.1 (by omega)) (fun z => w.2 j z ⟨j1, j2⟩)]
          exact e4 j j1 j2 hc
  · by_cases e : j = i
    · subst e
      exact nf
    · exact a6 d (by omega) hl j j1 (by omega)
  · by_cases e : j = i
    · subst e
      exact fun z => absurd z nf
    · exact a7 j (by omega)
/-- a check that passed: what the two runs rest on -/
theorem ds_N_fin {st : Nat → Int32} {lv lc : Nat → Prop} {L : Nat} {op el jm : Nat → Int32} (hL : L < 2 ^ 31) (N : ds_N st lv lc L 0 op el jm) : ds_F st jm L lv lc ∧ ∀ q, q < L → ds_ct st q → ∃ r, jm q = nI r ∧ r ≤ L := by
  obtain ⟨a1, a2, a3, a4, a5, a6, a7⟩ := N
  refine ⟨⟨a7, fun q hq hb => ?_⟩, fun q hq hc => ?_⟩
  · rcases a5 q hq hb with ⟨d, hd, _⟩ | ⟨e, e1, e2, e3, e4, e5⟩
    · omega
    · refine ⟨e, e1, e2, fun i i1 i2 hc => ?_, e5⟩
      obtain ⟨r, r1, r2, r3⟩ := e4 i i1 i2 hc
      rw [r1, nI_clamp (by omega)]
      exact ⟨r2, r3⟩
  · rcases a4 q hq hc with ⟨d, hd, _⟩ | ⟨r, r1, r2, _⟩
    · omega
    · exact ⟨r, r1, r2⟩
end
section
/-! labels that the observer p reads; no print in this part -/
def ds_rr (P : Nat) (A s : Nat → Int32) (p : Nat) : Prop := ∀ o, o < P → ¬ s o = -1 → bt (dl_e A o (s o) P) p = true
theorem ds_rr_c {P : Nat} {A s s' : Nat → Int32} {p : Nat} (h : ∀ o, o < P → s o = s' o) (g : ds_rr P A s p) : ds_rr P A s' p := by
  intro o ho n
  rw [← h o ho] at n ⊢
  exact g o ho n
theorem ds_e_m {A : Nat → Int32} {o P p : Nat} {r x : Int32} (h : bt (dl_e A o (r &&& x) P) p = true) : bt (dl_e A o r P) p = true := by
  rw [dl_eb] at h ⊢
  rcases h with h | ⟨s, h1, h2, h3⟩
  · exact Or.inl h
  · rw [b_and, Bool.and_eq_true] at h2
    exact Or.inr ⟨s, h1, h2.1, h3⟩
theorem ds_and_m1 {a b : Int32} (h : a &&& b = -1) : a = -1 := by
  apply b_ext
  intro i hi
  have t : bt (a &&& b) i = bt (-1) i := by rw [h]
  rw [b_and, b_m1 i hi, Bool.and_eq_true] at t
  rw [t.1, b_m1 i hi]
theorem ds_rr_1 {P : Nat} {A a b : Nat → Int32} {p : Nat} (g : ds_rr P A (fun o => a o &&& b o) p) : ds_rr P A a p := fun o ho n => ds_e_m (g o ho (fun z => n (ds_and_m1 z)))
theorem ds_rr_2 {P : Nat} {A a b : Nat → Int32} {p : Nat} (g : ds_rr P A (fun o => a o &&& b o) p) : ds_rr P A b p := by
  refine ds_rr_1 (b := a) (ds_rr_c (fun o _ => ?_) g)
  exact Int32.and_comm _ _
/-- who reads the target reads what flows into it -/
theorem ds_fl_rr {P : Nat} {A po s : Nat → Int32} {t p : Nat} (hp : p < 32) (f : dl_fl P A po s t 0) (r : dl_rd P A po t p) : ds_rr P A s p := by
  intro o ho n
  obtain ⟨k, hk, h1, h2, h3⟩ := f o ho n Int32.and_zero
  have a := r k hk h1
  have e : bt (dl_e A k (po (t * 8 + k)) P &&& (dl_e A o (s o) P ^^^ (-1))) p = bt 0 p := by rw [h3]
  rw [b_and, b_xor, b_m1 p hp, b_0, a, Bool.true_and] at e
  revert e
  cases bt (dl_e A o (s o) P) p
  · intro e
    exact absurd e (by decide)
  · intro _
    rfl
/-- the rows of the pc: who reads row d reads every guard below it -/
def ds_PL (P : Nat) (A pl st op : Nat → Int32) (lv : Nat → Prop) (D p : Nat) : Prop := ∀ d, d ≤ D → ds_rr P A (fun o => pl (d * 8 + o)) p → ∀ d', d' < d → lv (ds_a st (ds_on op d'))
def ds_lv (P : Nat) (A po : Nat → Int32) (p v : Nat) : Prop := v < 16 ∧ dl_rd P A po v p
def ds_lc (P : Nat) (A po : Nat → Int32) (p c : Nat) : Prop := c < 4 ∧ dl_rd P A po (16 + c) p
theorem ds_PL_0 (P : Nat) (A pl st op : Nat → Int32) (lv : Nat → Prop) (p : Nat) : ds_PL P A pl st op lv 0 p := fun d hd _ d' h => absurd h (by omega)
theorem ds_PL_dn {P : Nat} {A pl st op : Nat → Int32} {lv : Nat → Prop} {D p : Nat} (h : ds_PL P A pl st op lv (D + 1) p) : ds_PL P A pl st op lv D p := fun d hd => h d (by omega)
theorem ds_PL_o {P : Nat} {A pl po so st op : Nat → Int32} {D p i t : Nat} (hP : P ≤ 8) (hi : i < 2 ^ 31) (t16 : t < 16) (ht : ds_a st i = t) (h : ds_PL P A pl st op (ds_lv P A po p) D p) : ds_PL P A (dl_seg (dl_S2 pl po so D t) pl ((D + 1) * 8) 8) st (upd op D (nI i)) (ds_lv P A po p) (D + 1) p := by
  have u1 : ∀ d, d < D → ds_on (upd op D (nI i)) d = ds_on op d := fun d hd => by
    unfold ds_on
    rw [pk_un (by omega)]
  have u5 : ds_on (upd op D (nI i)) D = i := by
    unfold ds_on
    rw [pk_us, nI_clamp hi]
  intro d hd g d' hd'
  rcases Nat.lt_or_ge D d with e | e
  · have e1 : d = D + 1 := by omega
    subst e1
    have g2 : ds_rr P A (fun o => pl (D * 8 + o) &&& po (t * 8 + o)) p := by
      refine ds_rr_c (fun o ho => ?_) g
      show dl_seg (dl_S2 pl po so D t) pl ((D + 1) * 8) 8 ((D + 1) * 8 + o) = _
      rw [dl_seg_i (by omega)]
      unfold dl_S2 dl_Sj dl_S1
      rw [dl_row_l (by omega), dl_row_l (by omega)]
    rcases Nat.lt_or_ge d' D with f | f
    · rw [u1 d' f]
      exact h D (Nat.le_refl _) (ds_rr_1 (a := fun o => pl (D * 8 + o)) (b := fun o => po (t * 8 + o)) g2) d' f
    · have f1 : d' = D := by omega
      subst f1
      rw [u5, ht]
      exact ⟨t16, ds_rr_2 (a := fun o => pl (d' * 8 + o)) (b := fun o => po (t * 8 + o)) g2⟩
  · rw [u1 d' (by omega)]
    refine h d e (ds_rr_c (fun o ho => ?_) g) d' hd'
    exact dl_seg_o (by omega)
end
section
/-! p18: the component's small methods, over a program S -/
section
variable {xP xC xA xL xO xQ xS xK : Int32} {dA aA po st jm pl op el so ip va ov oc : Nat → Int32}
def dl_v (x : Int32) : Prop := ∃ n, n < 16 ∧ x = nI n
def dl_hc (x : Int32) : Prop := ∃ n, n < 4 ∧ x = nI n
/-- arguments that addStmt takes -/
def dl_ok (k a b c : Int32) : Prop := (k = 1 ∧ dl_v a) ∨ (k = 2 ∧ dl_v a ∧ dl_v b) ∨ (k = 13 ∧ dl_v a ∧ dl_v b) ∨ ((k = 3 ∨ k = 4 ∨ k = 5 ∨ k = 6 ∨ k = 7) ∧ dl_v a ∧ dl_v b ∧ dl_v c) ∨ ((k = 8 ∨ k = 11) ∧ dl_v a) ∨ (k = 9 ∨ k = 10) ∨ (k = 12 ∧ dl_hc a ∧ dl_v b)
/-- a stored statement -/
def dp_ok (k a b c : Int32) : Prop := (k = 1 ∧ dl_v a ∧ c = 0) ∨ (k = 2 ∧ dl_v a ∧ dl_v b ∧ c = 0) ∨ (k = 13 ∧ dl_v a ∧ dl_v b ∧ c = 0) ∨ ((k = 3 ∨ k = 4 ∨ k = 5 ∨ k = 6 ∨ k = 7) ∧ dl_v a ∧ dl_v b ∧ dl_v c) ∨ ((k = 8 ∨ k = 11) ∧ dl_v a ∧ b = 0 ∧ c = 0) ∨ ((k = 9 ∨ k = 10) ∧ a = 0 ∧ b = 0 ∧ c = 0) ∨ (k = 12 ∧ dl_hc a ∧ dl_v b ∧ c = 0)
def dp_na (k a : Int32) : Int32 := if k = 9 ∨ k = 10 then 0 else a
def dp_nb (k b : Int32) : Int32 := if k = 9 ∨ k = 10 ∨ k = 8 ∨ k = 11 then 0 else b
def dp_nc (k c : Int32) : Int32 := if k = 3 ∨ k = 4 ∨ k = 5 ∨ k = 6 ∨ k = 7 then c else 0
theorem dp_na1 (a : Int32) : dp_na 1 a = a := if_neg (by decide)
theorem dp_nb1 (b : Int32) : dp_nb 1 b = b := if_neg (by decide)
theorem dp_nc1 (c : Int32) : dp_nc 1 c = 0 := if_neg (by decide)
theorem dp_na2 (a : Int32) : dp_na 2 a = a := if_neg (by decide)
theorem dp_nb2 (b : Int32) : dp_nb 2 b = b := if_neg (by decide)
theorem dp_nc2 (c : Int32) : dp_nc 2 c = 0 := if_neg (by decide)
theorem dp_na3 (a : Int32) : dp_na 3 a = a := if_neg (by decide)
theorem dp_nb3 (b : Int32) : dp_nb 3 b = b := if_neg (by decide)
theorem dp_nc3 (c : Int32) : dp_nc 3 c = c := if_pos (by decide)
theorem dp_na4 (a : Int32) : dp_na 4 a = a := if_neg (by decide)
theorem dp_nb4 (b : Int32) : dp_nb 4 b = b := if_neg (by decide)
theorem dp_nc4 (c : Int32) : dp_nc 4 c = c := if_pos (by decide)
theorem dp_na5 (a : Int32) : dp_na 5 a = a := if_neg (by decide)
theorem dp_nb5 (b : Int32) : dp_nb 5 b = b := if_neg (by decide)
theorem dp_nc5 (c : Int32) : dp_nc 5 c = c := if_pos (by decide)
theorem dp_na6 (a : Int32) : dp_na 6 a = a := if_neg (by decide)
theorem dp_nb6 (b : Int32) : dp_nb 6 b = b := if_neg (by decide)
theorem dp_nc6 (c : Int32) : dp_nc 6 c = c := if_pos (by decide)
theorem dp_na7 (a : Int32) : dp_na 7 a = a := if_neg (by decide)
theorem dp_nb7 (b : Int32) : dp_nb 7 b = b := if_neg (by decide)
theorem dp_nc7 (c : Int32) : dp_nc 7 c = c := if_pos (by decide)
theorem dp_na8 (a : Int32) : dp_na 8 a = a := if_neg (by decide)
theorem dp_nb8 (b : Int32) : dp_nb 8 b = 0 := if_pos (by decide)
theorem dp_nc8 (c : Int32) : dp_nc 8 c = 0 := if_neg (by decide)
theorem dp_na9 (a : Int32) : dp_na 9 a = 0 := if_pos (by decide)
theorem dp_nb9 (b : Int32) : dp_nb 9 b = 0 := if_pos (by decide)
theorem dp_nc9 (c : Int32) : dp_nc 9 c = 0 := if_neg (by decide)
theorem dp_na10 (a : Int32) : dp_na 10 a = 0 := if_pos (by decide)
theorem dp_nb10 (b : Int32) : dp_nb 10 b = 0 := if_pos (by decide)
theorem dp_nc10 (c : Int32) : dp_nc 10 c = 0 := if_neg (by decide)
theorem dp_na11 (a : Int32) : dp_na 11 a = a := if_neg (by decide)
theorem dp_nb11 (b : Int32) : dp_nb 11 b = 0 := if_pos (by decide)
theorem dp_nc11 (c : Int32) : dp_nc 11 c = 0 := if_neg (by decide)
theorem dp_na12 (a : Int32) : dp_na 12 a = a := if_neg (by decide)
theorem dp_nb12 (b : Int32) : dp_nb 12 b = b := if_neg (by decide)
theorem dp_nc12 (c : Int32) : dp_nc 12 c = 0 := if_neg (by decide)
theorem dp_na13 (a : Int32) : dp_na 13 a = a := if_neg (by decide)
theorem dp_nb13 (b : Int32) : dp_nb 13 b = b := if_neg (by decide)
theorem dp_nc13 (c : Int32) : dp_nc 13 c = 0 := if_neg (by decide)
theorem dp_okn {k a b c : Int32} (h : dl_ok k a b c) : dp_ok k (dp_na k a) (dp_nb k b) (dp_nc k c) := by
  rcases h with ⟨rfl, h1⟩ | ⟨rfl, h1, h2⟩ | ⟨rfl, h1, h2⟩ | ⟨rfl | rfl | rfl | rfl | rfl, h1, h2, h3⟩ | ⟨rfl | rfl, h1⟩ | (rfl | rfl) | ⟨rfl, h1, h2⟩
  · rw [dp_na1, dp_nb1, dp_nc1]
    exact Or.inl ⟨rfl, h1, rfl⟩
  · rw [dp_na2, dp_nb2, dp_nc2]
    exact Or.inr (Or.inl ⟨rfl, h1, h2, rfl⟩)
  · rw [dp_na13, dp_nb13, dp_nc13]
    exact Or.inr (Or.inr (Or.inl ⟨rfl, h1, h2, rfl⟩))
  · rw [dp_na3, dp_nb3, dp_nc3]
    exact Or.inr (Or.inr (Or.inr (Or.inl ⟨Or.inl rfl, h1, h2, h3⟩)))
  · rw [dp_na4, dp_nb4, dp_nc4]
    exact Or.inr (Or.inr (Or.inr (Or.inl ⟨Or.inr (Or.inl rfl), h1, h2, h3⟩)))
  · rw [dp_na5, dp_nb5, dp_nc5]
    exact Or.inr (Or.inr (Or.inr (Or.inl ⟨Or.inr (Or.inr (Or.inl rfl)), h1, h2, h3⟩)))
  · rw [dp_na6, dp_nb6, dp_nc6]
    exact Or.inr (Or.inr (Or.inr (Or.inl ⟨Or.inr (Or.inr (Or.inr (Or.inl rfl))), h1, h2, h3⟩)))
  · rw [dp_na7, dp_nb7, dp_nc7]
    exact Or.inr (Or.inr (Or.inr (Or.inl ⟨Or.inr (Or.inr (Or.inr (Or.inr rfl))), h1, h2, h3⟩)))
  · rw [dp_na8, dp_nb8, dp_nc8]
    exact Or.inr (Or.inr (Or.inr (Or.inr (Or.inl ⟨Or.inl rfl, h1, rfl, rfl⟩))))
  · rw [dp_na11, dp_nb11, dp_nc11]
    exact Or.inr (Or.inr (Or.inr (Or.inr (Or.inl ⟨Or.inr rfl, h1, rfl, rfl⟩))))
  · rw [dp_na9, dp_nb9, dp_nc9]
    exact Or.inr (Or.inr (Or.inr (Or.inr (Or.inr (Or.inl ⟨Or.inl rfl, rfl, rfl, rfl⟩)))))
  · rw [dp_na10, dp_nb10, dp_nc10]
    exact Or.inr (Or.inr (Or.inr (Or.inr (Or.inr (Or.inl ⟨Or.inr rfl, rfl, rfl, rfl⟩)))))
  · rw [dp_na12, dp_nb12, dp_nc12]
    exact Or.inr (Or.inr (Or.inr (Or.inr (Or.inr (Or.inr ⟨rfl, h1, h2, rfl⟩)))))
theorem dp_ok_n {k a b c : Int32} (h : dp_ok k a b c) : dl_ok k a b c ∧ dp_na k a = a ∧ dp_nb k b = b ∧ dp_nc k c = c := by
  rcases h with ⟨rfl, h1, rfl⟩ | ⟨rfl, h1, h2, rfl⟩ | ⟨rfl, h1, h2, rfl⟩ | ⟨rfl | rfl | rfl | rfl | rfl, h1, h2, h3⟩ | ⟨rfl | rfl, h1, rfl, rfl⟩ | ⟨rfl | rfl, rfl, rfl, rfl⟩ | ⟨rfl, h1, h2, rfl⟩
  · exact ⟨Or.inl ⟨rfl, h1⟩, dp_na1 _, dp_nb1 _, dp_nc1 _⟩
  · exact ⟨Or.inr (Or.inl ⟨rfl, h1, h2⟩), dp_na2 _, dp_nb2 _, dp_nc2 _⟩
  · exact ⟨Or.inr (Or.inr (Or.inl ⟨rfl, h1, h2⟩)), dp_na13 _, dp_nb13 _, dp_nc13 _⟩
  · exact ⟨Or.inr (Or.inr (Or.inr (Or.inl ⟨Or.inl rfl, h1, h2, h3⟩))), dp_na3 _, dp_nb3 _, dp_nc3 _⟩
  · exact ⟨Or.inr (Or.inr (Or.inr (Or.inl ⟨Or.inr (Or.inl rfl), h1, h2, h3⟩))), dp_na4 _, dp_nb4 _, dp_nc4 _⟩
  · exact ⟨Or.inr (Or.inr (Or.inr (Or.inl ⟨Or.inr (Or.inr (Or.inl rfl)), h1, h2, h3⟩))), dp_na5 _, dp_nb5 _, dp_nc5 _⟩
  · exact ⟨Or.inr (Or.inr (Or.inr (Or.inl ⟨Or.inr (Or.inr (Or.inr (Or.inl rfl))), h1, h2, h3⟩))), dp_na6 _, dp_nb6 _, dp_nc6 _⟩
  · exact ⟨Or.inr (Or.inr (Or.inr (Or.inl ⟨Or.inr (Or.inr (Or.inr (Or.inr rfl))), h1, h2, h3⟩))), dp_na7 _, dp_nb7 _, dp_nc7 _⟩
  · exact ⟨Or.inr (Or.inr (Or.inr (Or.inr (Or.inl ⟨Or.inl rfl, h1⟩)))), dp_na8 _, dp_nb8 _, dp_nc8 _⟩
  · exact ⟨Or.inr (Or.inr (Or.inr (Or.inr (Or.inl ⟨Or.inr rfl, h1⟩)))), dp_na11 _, dp_nb11 _, dp_nc11 _⟩
  · exact ⟨Or.inr (Or.inr (Or.inr (Or.inr (Or.inr (Or.inl (Or.inl rfl)))))), dp_na9 _, dp_nb9 _, dp_nc9 _⟩
  · exact ⟨Or.inr (Or.inr (Or.inr (Or.inr (Or.inr (Or.inl (Or.inr rfl)))))), dp_na10 _, dp_nb10 _, dp_nc10 _⟩
  · exact ⟨Or.inr (Or.inr (Or.inr (Or.inr (Or.inr (Or.inr ⟨rfl, h1, h2⟩))))), dp_na12 _, dp_nb12 _, dp_nc12 _⟩
/-- the program of an object -/
def dp_T (L : Nat) (st S : Nat → Int32) : Prop := (∀ x, x < L * 4 → st x = S x) ∧ ∀ i, i < L → dp_ok (S (i * 4)) (S (i * 4 + 1)) (S (i * 4 + 2)) (S (i * 4 + 3))
def dp_X (P L : Nat) (S : Nat → Int32) (u : St2) : Prop := match u with
  | (xP, xC, xA, xL, xO, xQ, xS, xK, dA, aA, po, st, jm, pl, op, el, so, ip, va, ov, oc) => xP = nI P ∧ xC = 64 ∧ xA = 0 ∧ xL = nI L ∧ ip = (fun _ => 0) ∧ (2 ≤ P ∧ P ≤ 8) ∧ L ≤ 64 ∧ dp_T L st S
theorem dp_T_c {L : Nat} {st S S' : Nat → Int32} (h : dp_T L st S) (e : ∀ x, x < L * 4 → S x = S' x) : dp_T L st S' := by
  refine ⟨fun x hx => (h.1 x hx).trans (e x hx), fun i hi => ?_⟩
  rw [← e (i * 4) (by omega), ← e (i * 4 + 1) (by omega), ← e (i * 4 + 2) (by omega), ← e (i * 4 + 3) (by omega)]
  exact h.2 i hi
theorem dp_X_c {P L : Nat} {S S' : Nat → Int32} {u : St2} (h : dp_X P L S u) (e : ∀ x, x < L * 4 → S x = S' x) : dp_X P L S' u := by
  obtain ⟨xP, xC, xA, xL, xO, xQ, xS, xK, dA, aA, po, st, jm, pl, op, el, so, ip, va, ov, oc⟩ := u
  obtain ⟨h1, h2, h3, h4, h5, h6, h7, h8⟩ := h
  exact ⟨h1, h2, h3, h4, h5, h6, h7, dp_T_c h8 e⟩
def dl_w (st : Nat → Int32) (L : Nat) (k a b c : Int32) : Nat → Int32 := upd (upd (upd (upd st (L * 4) k) (L * 4 + 1) a) (L * 4 + 2) b) (L * 4 + 3) c
theorem dl_w0 (st : Nat → Int32) (L : Nat) (k a b c : Int32) : dl_w st L k a b c (L * 4) = k ∧ dl_w st L k a b c (L * 4 + 1) = a ∧ dl_w st L k a b c (L * 4 + 2) = b ∧ dl_w st L k a b c (L * 4 + 3) = c := by
  unfold dl_w
  refine ⟨?_, ?_, ?_, ?_⟩
  · rw [pk_un (by omega), pk_un (by omega), pk_un (by omega), pk_us]
  · rw [pk_un (by omega), pk_un (by omega), pk_us]
  · rw [pk_un (by omega), pk_us]
  · rw [pk_us]
theorem dl_w1 {st : Nat → Int32} {L x : Nat} {k a b c : Int32} (h : x < L * 4) : dl_w st L k a b c x = st x := by
  unfold dl_w
  rw [pk_un (by omega), pk_un (by omega), pk_un (by omega), pk_un (by omega)]
theorem dp_T_w {L : Nat} {st S : Nat → Int32} {k a b c : Int32} (h : dp_T L st S) (ok : dp_ok k a b c) : dp_T (L + 1) (dl_w st L k a b c) (dl_w S L k a b c) := by
  obtain ⟨s0, s1, s2, s3⟩ := dl_w0 st L k a b c
  obtain ⟨t0, t1, t2, t3⟩ := dl_w0 S L k a b c
  refine ⟨fun x hx => ?_, fun i hi => ?_⟩
  · rcases Nat.lt_or_ge x (L * 4) with z | z
    · rw [dl_w1 z, dl_w1 z]
      exact h.1 x z
    · have e : x = L * 4 ∨ x = L * 4 + 1 ∨ x = L * 4 + 2 ∨ x = L * 4 + 3 := by omega
      rcases e with e | e | e | e <;> subst e
      · rw [s0, t0]
      · rw [s1, t1]
      · rw [s2, t2]
      · rw [s3, t3]
  · rcases Nat.lt_or_ge i L with z | z
    · rw [dl_w1 (by omega), dl_w1 (by omega), dl_w1 (by omega), dl_w1 (by omega)]
      exact h.2 i z
    · have e : i = L := by omega
      subst e
      rw [t0, t1, t2, t3]
      exact ok
/-! ranges -/
theorem dl_rg (x : Int32) {n : Nat} (hn : n < 2 ^ 31) : (x < 0 ∨ (¬ x < 0 ∧ nI n ≤ x)) ∨ ∃ j : Nat, j < n ∧ x = nI j := by
  by_cases h : x < 0
  · exact Or.inl (Or.inl h)
  · rcases pk_ix x hn with z | z | z
    · exact absurd z h
    · exact Or.inl (Or.inr ⟨h, z⟩)
    · exact Or.inr z
theorem dx_isP1 {post : Int32 → Prop} {P j : Nat} (hP : P ≤ 8) (hj : j < P) (h : post 1) : wpX_isPrincipal post (nI P, xC, xA, xL, xO, xQ, xS, xK, dA, aA, po, st, jm, pl, op, el, so, ip, va, ov, oc) (nI j) := by
  unfold wpX_isPrincipal
  exact br_f (nI_pos (by omega)) (br_f (nI_ge hj (by omega)) h)
theorem dx_isP0 {post : Int32 → Prop} {P : Nat} {x : Int32} (b : x < 0 ∨ (¬ x < 0 ∧ nI P ≤ x)) (h : post 0) : wpX_isPrincipal post (nI P, xC, xA, xL, xO, xQ, xS, xK, dA, aA, po, st, jm, pl, op, el, so, ip, va, ov, oc) x := by
  unfold wpX_isPrincipal
  rcases b with b | b
  · exact br_t b h
  · exact br_f b.1 (br_t b.2 h)
theorem dx_isTarget1 {post : Int32 → Prop} {j : Nat} (hj : j < 20) (h : post 1) : wpX_isTarget post () (nI j) := by
  unfold wpX_isTarget
  exact br_f (nI_pos (by omega)) (br_f (nI_ge (b := 20) hj (by omega)) h)
theorem dx_isTarget0 {post : Int32 → Prop} {x : Int32} (b : x < 0 ∨ (¬ x < 0 ∧ nI 20 ≤ x)) (h : post 0) : wpX_isTarget post () x := by
  unfold wpX_isTarget
  rcases b with b | b
  · exact br_t b h
  · exact br_f b.1 (br_t b.2 h)
theorem dx_isVariable1 {post : Int32 → Prop} {j : Nat} (hj : j < 16) (h : post 1) : wpX_isVariable post () (nI j) := by
  unfold wpX_isVariable
  exact br_f (nI_pos (by omega)) (br_f (nI_ge (b := 16) hj (by omega)) h)
theorem dx_isVariable0 {post : Int32 → Prop} {x : Int32} (b : x < 0 ∨ (¬ x < 0 ∧ nI 16 ≤ x)) (h : post 0) : wpX_isVariable post () x := by
  unfold wpX_isVariable
  rcases b with b | b
  · exact br_t b h
  · exact br_f b.1 (br_t b.2 h)
theorem dx_isChannel1 {post : Int32 → Prop} {j : Nat} (hj : j < 4) (h : post 1) : wpX_isChannel post () (nI j) := by
  unfold wpX_isChannel
  exact br_f (nI_pos (by omega)) (br_f (nI_ge (b := 4) hj (by omega)) h)
theorem dx_isChannel0 {post : Int32 → Prop} {x : Int32} (b : x < 0 ∨ (¬ x < 0 ∧ nI 4 ≤ x)) (h : post 0) : wpX_isChannel post () x := by
  unfold wpX_isChannel
  rcases b with b | b
  · exact br_t b h
  · exact br_f b.1 (br_t b.2 h)
theorem dp_isPS {post : Int32 → Prop} {x : Int32} (h : ∀ r, post r) : wpX_isPrincipalSet post (xP, xC, xA, xL, xO, xQ, xS, xK, dA, aA, po, st, jm, pl, op, el, so, ip, va, ov, oc) x := br_c (fun _ => h 0) (fun _ => br_c (fun _ => h 0) (fun _ => h 1))
/-! closing the actors: it ends -/
theorem dp_c44 {post : St2 → Prop} {J : Int32 → (Nat → Int32) → (Nat → Int32) → (Nat → Int32) → (Nat → Int32) → (Nat → Int32) → (Nat → Int32) → (Nat → Int32) → (Nat → Int32) → (Nat → Int32) → (Nat → Int32) → (Nat → Int32) → (Nat → Int32) → (Nat → Int32) → Prop} {P m : Nat} (hP : P ≤ 8) (hm : m < P) (h : ∀ A', J (nI (m + 1)) dA A' po st jm pl op el so ip va ov oc) : ∃ n, wX_closeActors_44 post J (nI m) (nI P) xC xA xL xO xQ xS xK n 0 dA aA po st jm pl op el so ip va ov oc := by
  refine loop_0 (fun n i a => wX_closeActors_44 post J (nI m) (nI P) xC xA xL xO xQ xS xK n (nI i) dA a po st jm pl op el so ip va ov oc) (fun _ _ => True) P aA trivial ?_ ?_
  · intro n a _
    exact br_t (nI_le (Nat.le_refl _) (by omega)) (nm_r (nI_1 m) (h a))
  · intro n i a hi _ ih
    have v : vp_in (nI i) 8 := vp_in_nI (by omega) (by omega)
    exact br_f (nI_ge hi (by omega)) ⟨v, dx_contains (by omega) (fun _ => br_f (by decide) ⟨v, vp_in_nI (by omega) (by omega), v, nm_e (nm_r (nI_1 i) (ih _ trivial))⟩) (fun _ => br_t rfl (nm_r (nI_1 i) (ih _ trivial)))⟩
theorem dp_c34 {post : St2 → Prop} {P : Nat} (hP : P ≤ 8) (h : ∀ A', post (nI P, xC, xA, xL, xO, xQ, xS, xK, dA, A', po, st, jm, pl, op, el, so, ip, va, ov, oc)) : ∃ n, wX_closeActors_34 post (nI P) xC xA xL xO xQ xS xK n 0 dA aA po st jm pl op el so ip va ov oc := by
  refine loop_0 (fun n m a => wX_closeActors_34 post (nI P) xC xA xL xO xQ xS xK n (nI m) dA a po st jm pl op el so ip va ov oc) (fun _ _ => True) P aA trivial ?_ ?_
  · intro n a _
    exact br_t (nI_le (Nat.le_refl _) (by omega)) (h a)
  · intro n m a hm _ ih
    exact br_f (nI_ge hm (by omega)) (dp_c44 hP hm (fun A' => ih A' trivial))
theorem dp_close {post : St2 → Prop} {P : Nat} (hP : P ≤ 8) (h : ∀ A', post (nI P, xC, xA, xL, xO, xQ, xS, xK, dA, A', po, st, jm, pl, op, el, so, ip, va, ov, oc)) : wpX_closeActors post (nI P, xC, xA, xL, xO, xQ, xS, xK, dA, aA, po, st, jm, pl, op, el, so, ip, va, ov, oc) := by
  refine loop_0 (fun n i a => wX_closeActors_2 post (nI P) xC xA xL xO xQ xS xK n (nI i) dA a po st jm pl op el so ip va ov oc) (fun _ _ => True) P aA trivial ?_ ?_
  · intro n a _
    exact br_t (nI_le (Nat.le_refl _) (by omega)) (dp_c34 hP h)
  · intro n i a hi _ ih
    have v : vp_in (nI i) 8 := vp_in_nI (by omega) (by omega)
    exact br_f (nI_ge hi (by omega)) ⟨v, v, nm_e (nm_r (nI_1 i) (ih _ trivial))⟩
theorem dp_init {post : St2 → Prop} {P : Nat} (P2 : 2 ≤ P) (P8 : P ≤ 8) (q : ∀ u', dp_X P 0 (fun _ => 0) u' → post u') : wpX_init post 13 692 (0, 0, 0, 0, 0, 0, 0, 0) (nI P) 64 := by
  unfold wpX_init
  refine ⟨by omega, by omega, by omega, by omega, by omega, by omega, by omega, by omega, by omega, by omega, by omega, by omega, by omega, by omega, by omega, by omega, by omega, by omega, by omega, by omega, by omega, by omega, by omega, by omega, by omega, by omega, ?_⟩
  unfold wpX_clamp
  refine br_t (nI_le (a := 2) P2 (by omega)) (br_t (nI_le (b := 8) P8 (by omega)) (br_t (by decide) (br_t (by decide) ?_)))
  refine loop_0 (fun n i a => wX_init_134 post 13 692 13 692 (nI P) 64 0 0 0 0 0 0 n (nI i) (fun _ => 0) (fun _ => 0) a (fun _ => 0) (fun _ => 0) (fun _ => 0) (fun _ => 0) (fun _ => 0) (fun _ => 0) (fun _ => 0) (fun _ => 0) (fun _ => 0) (fun _ => 0)) (fun _ _ => True) 160 (fun _ => 0) trivial ?_ ?_
  · intro n a _
    refine br_t (nI_le (a := 160) (b := 160) (by omega) (by omega)) (dp_close P8 (fun A' => dx_reset (q _ ?_)))
    exact ⟨rfl, rfl, rfl, rfl, rfl, ⟨P2, P8⟩, by omega, fun x hx => absurd hx (by omega), fun i hi => absurd hi (by omega)⟩
  · intro n i a hi _ ih
    exact br_f (nI_ge (b := 160) hi (by omega)) ⟨vp_in_nI hi (by omega), nm_e (nm_r (nI_1 i) (ih _ trivial))⟩
theorem dp_acts {post : Int32 → St2 → Prop} {P L : Nat} {S : Nat → Int32} {u : St2} {a b c : Int32} (h : dp_X P L S u) (q : ∀ r u', dp_X P L S u' → post r u') : wpX_setActsFor post u a b c := by
  obtain ⟨xP, xC, xA, xL, xO, xQ, xS, xK, dA, aA, po, st, jm, pl, op, el, so, ip, va, ov, oc⟩ := u
  obtain ⟨rfl, rfl, rfl, rfl, rfl, ⟨P2, P8⟩, hL, hT⟩ := h
  have K : dp_X P L S (nI P, 64, 0, nI L, xO, xQ, xS, xK, dA, aA, po, st, jm, pl, op, el, so, (fun _ => 0), va, ov, oc) := ⟨rfl, rfl, rfl, rfl, rfl, ⟨P2, P8⟩, hL, hT⟩
  have fin : ∀ D2 : Nat → Int32, wX_setActsFor_56 post (nI P) 64 0 (nI L) xO xQ xS xK D2 aA po st jm pl op el so (fun _ => 0) va ov oc := by
    intro D2
    unfold wX_setActsFor_56
    exact dp_close P8 (fun A' => dx_reset (q _ _ ⟨rfl, rfl, rfl, rfl, rfl, ⟨P2, P8⟩, hL, hT⟩))
  unfold wpX_setActsFor
  rcases dl_rg a (n := P) (by omega) with ba | ⟨i, hi, rfl⟩
  · exact dx_isP0 ba (br_t rfl (q _ _ K))
  rcases dl_rg b (n := P) (by omega) with bb | ⟨j, hj, rfl⟩
  · exact dx_isP1 P8 hi (br_f (by decide) (dx_isP0 bb (br_t rfl (q _ _ K))))
  have v : vp_in (nI j) 8 := vp_in_nI (by omega) (by omega)
  exact dx_isP1 P8 hi (br_f (by decide) (dx_isP1 P8 hj (br_f (by decide) (br_c (fun _ => q _ _ K) (fun _ => br_c (fun _ => ⟨v, v, nm_e (fin _)⟩) (fun _ => ⟨v, v, nm_e (fin _)⟩))))))
theorem dp_pol {post : Int32 → St2 → Prop} {P L : Nat} {S : Nat → Int32} {u : St2} {a b c : Int32} (h : dp_X P L S u) (q : ∀ r u', dp_X P L S u' → post r u') : wpX_setPolicy post u a b c := by
  obtain ⟨xP, xC, xA, xL, xO, xQ, xS, xK, dA, aA, po, st, jm, pl, op, el, so, ip, va, ov, oc⟩ := u
  obtain ⟨rfl, rfl, rfl, rfl, rfl, ⟨P2, P8⟩, hL, hT⟩ := h
  have K : dp_X P L S (nI P, 64, 0, nI L, xO, xQ, xS, xK, dA, aA, po, st, jm, pl, op, el, so, (fun _ => 0), va, ov, oc) := ⟨rfl, rfl, rfl, rfl, rfl, ⟨P2, P8⟩, hL, hT⟩
  unfold wpX_setPolicy
  rcases dl_rg a (n := 20) (by omega) with ba | ⟨i, hi, rfl⟩
  · exact dx_isTarget0 ba (br_t rfl (q _ _ K))
  rcases dl_rg b (n := P) (by omega) with bb | ⟨j, hj, rfl⟩
  · exact dx_isTarget1 hi (br_f (by decide) (dx_isP0 bb (br_t rfl (q _ _ K))))
  have fin : wX_setPolicy_32 post (nI i) (nI j) c (nI P) 64 0 (nI L) xO xQ xS xK dA aA po st jm pl op el so (fun _ => 0) va ov oc := by
    unfold wX_setPolicy_32 wpX_cell
    rw [dl_m8]
    exact ⟨vp_in_nI (by omega) (by omega), nm_e (dx_reset (q _ _ ⟨rfl, rfl, rfl, rfl, rfl, ⟨P2, P8⟩, hL, hT⟩))⟩
  exact dx_isTarget1 hi (br_f (by decide) (dx_isP1 P8 hj (br_f (by decide) (br_c (fun _ => fin) (fun _ => dp_isPS (fun r => br_c (fun _ => q _ _ K) (fun _ => fin)))))))
theorem dp_clear {post : St2 → Prop} {P L : Nat} {S : Nat → Int32} {u : St2} (h : dp_X P L S u) (q : ∀ u', dp_X P 0 S u' → post u') : wpX_clearProgram post u := by
  obtain ⟨xP, xC, xA, xL, xO, xQ, xS, xK, dA, aA, po, st, jm, pl, op, el, so, ip, va, ov, oc⟩ := u
  obtain ⟨rfl, rfl, rfl, rfl, rfl, ⟨P2, P8⟩, hL, hT⟩ := h
  unfold wpX_clearProgram
  exact dx_reset (q _ ⟨rfl, rfl, rfl, rfl, rfl, ⟨P2, P8⟩, by omega, fun x hx => absurd hx (by omega), fun i hi => absurd hi (by omega)⟩)
theorem dp_len {post : Int32 → Prop} {P L : Nat} {S : Nat → Int32} {u : St2} (h : dp_X P L S u) (q : post (nI L)) : wpX_getValue post u 33 := by
  obtain ⟨xP, xC, xA, xL, xO, xQ, xS, xK, dA, aA, po, st, jm, pl, op, el, so, ip, va, ov, oc⟩ := u
  obtain ⟨rfl, rfl, rfl, rfl, rfl, ⟨P2, P8⟩, hL, hT⟩ := h
  unfold wpX_getValue
  refine dx_isVariable0 (Or.inr ⟨by decide, by decide⟩) (br_t rfl (br_f (by decide) (br_t (by decide) ?_)))
  unfold wX_getValue_36
  exact br_f (by decide) (br_f (by decide) (br_f (by decide) (br_t rfl q)))
theorem dp_get {post : Int32 → Prop} {P L : Nat} {S : Nat → Int32} {u : St2} {j f : Nat} (h : dp_X P L S u) (hj : j < L) (hf : f < 4) (q : post (S (j * 4 + f))) : wpX_getStmt post u (nI j) (nI f) := by
  obtain ⟨xP, xC, xA, xL, xO, xQ, xS, xK, dA, aA, po, st, jm, pl, op, el, so, ip, va, ov, oc⟩ := u
  obtain ⟨rfl, rfl, rfl, rfl, rfl, ⟨P2, P8⟩, hL, hT⟩ := h
  unfold wpX_getStmt
  refine br_f (nI_pos (by omega)) (br_f (nI_ge hj (by omega)) (br_f (nI_pos (by omega)) (br_t (nI_lt (b := 4) hf (by omega)) ?_)))
  rw [dl_m4, nI_add, dl_c (show j * 4 + f < 2 ^ 31 by omega), hT.1 (j * 4 + f) (by omega)]
  exact ⟨vp_in_nI (by omega) (by omega), q⟩
theorem dx_add0 {post : Int32 → St2 → Prop} {L : Nat} {k a b c : Int32} (hL : L < 64) (h : post (nI L) (xP, xC, xA, nI (L + 1), xO, 0, 0, -1, dA, aA, po, dl_w st L k 0 0 0, jm, pl, op, el, so, ip, va, ov, dl_zn oc 4)) : ∀ x6 : Int32, x6 = nI L * 4 → (vp_in x6 256 ∧ ∀ s7 : Nat → Int32, s7 = upd st x6.toNatClampNeg k → (((0 : Int32) < 1 → wX_addStmt_65 post b c 0 x6 0 (x6 + 1) xP xC xA (nI L) xO xQ xS xK dA aA po s7 jm pl op el so ip va ov oc) ∧ (¬ (0 : Int32) < 1 → wX_addStmt_65 post b c 0 x6 a (x6 + 1) xP xC xA (nI L) xO xQ xS xK dA aA po s7 jm pl op el so ip va ov oc))) := by
  obtain ⟨v0, c0⟩ := dl_s0 hL
  obtain ⟨v1, c1⟩ := dl_s1 hL
  obtain ⟨v2, c2⟩ := dl_s2 hL
  obtain ⟨v3, c3⟩ := dl_s3 hL
  refine nm_r (dl_m4 L) ⟨v0, nm_r (e' := upd st (L * 4) k) (by rw [c0]) (br_t (by decide) ?_)⟩
  unfold wX_addStmt_65
  refine ⟨v1, nm_r (e' := upd (upd st (L * 4) k) (L * 4 + 1) 0) (by rw [c1]) (br_t (by decide) ?_)⟩
  unfold wX_addStmt_85
  refine ⟨v2, nm_r (e' := upd (upd (upd st (L * 4) k) (L * 4 + 1) 0) (L * 4 + 2) 0) (by rw [c2]) (br_t (by decide) ?_)⟩
  unfold wX_addStmt_106
  refine ⟨v3, nm_r (e' := dl_w st L k 0 0 0) (by rw [c3]; rfl) (nm_r (nI_1 L) (dx_reset ?_))⟩
  show post (nI (L + 1) - 1) _
  rw [nI_pred]
  exact h
theorem dx_add1 {post : Int32 → St2 → Prop} {L : Nat} {k a b c : Int32} (hL : L < 64) (h : post (nI L) (xP, xC, xA, nI (L + 1), xO, 0, 0, -1, dA, aA, po, dl_w st L k a 0 0, jm, pl, op, el, so, ip, va, ov, dl_zn oc 4)) : ∀ x6 : Int32, x6 = nI L * 4 → (vp_in x6 256 ∧ ∀ s7 : Nat → Int32, s7 = upd st x6.toNatClampNeg k → (((1 : Int32) < 1 → wX_addStmt_65 post b c 1 x6 0 (x6 + 1) xP xC xA (nI L) xO xQ xS xK dA aA po s7 jm pl op el so ip va ov oc) ∧ (¬ (1 : Int32) < 1 → wX_addStmt_65 post b c 1 x6 a (x6 + 1) xP xC xA (nI L) xO xQ xS xK dA aA po s7 jm pl op el so ip va ov oc))) := by
  obtain ⟨v0, c0⟩ := dl_s0 hL
  obtain ⟨v1, c1⟩ := dl_s1 hL
  obtain ⟨v2, c2⟩ := dl_s2 hL
  obtain ⟨v3, c3⟩ := dl_s3 hL
  refine nm_r (dl_m4 L) ⟨v0, nm_r (e' := upd st (L * 4) k) (by rw [c0]) (br_f (by decide) ?_)⟩
  unfold wX_addStmt_65
  refine ⟨v1, nm_r (e' := upd (upd st (L * 4) k) (L * 4 + 1) a) (by rw [c1]) (br_t (by decide) ?_)⟩
  unfold wX_addStmt_85
  refine ⟨v2, nm_r (e' := upd (upd (upd st (L * 4) k) (L * 4 + 1) a) (L * 4 + 2) 0) (by rw [c2]) (br_t (by decide) ?_)⟩
  unfold wX_addStmt_106
  refine ⟨v3, nm_r (e' := dl_w st L k a 0 0) (by rw [c3]; rfl) (nm_r (nI_1 L) (dx_reset ?_))⟩
  show post (nI (L + 1) - 1) _
  rw [nI_pred]
  exact h
theorem dx_add2 {post : Int32 → St2 → Prop} {L : Nat} {k a b c : Int32} (hL : L < 64) (h : post (nI L) (xP, xC, xA, nI (L + 1), xO, 0, 0, -1, dA, aA, po, dl_w st L k a b 0, jm, pl, op, el, so, ip, va, ov, dl_zn oc 4)) : ∀ x6 : Int32, x6 = nI L * 4 → (vp_in x6 256 ∧ ∀ s7 : Nat → Int32, s7 = upd st x6.toNatClampNeg k → (((2 : Int32) < 1 → wX_addStmt_65 post b c 2 x6 0 (x6 + 1) xP xC xA (nI L) xO xQ xS xK dA aA po s7 jm pl op el so ip va ov oc) ∧ (¬ (2 : Int32) < 1 → wX_addStmt_65 post b c 2 x6 a (x6 + 1) xP xC xA (nI L) xO xQ xS xK dA aA po s7 jm pl op el so ip va ov oc))) := by
  obtain ⟨v0, c0⟩ := dl_s0 hL
  obtain ⟨v1, c1⟩ := dl_s1 hL
  obtain ⟨v2, c2⟩ := dl_s2 hL
  obtain ⟨v3, c3⟩ := dl_s3 hL
  refine nm_r (dl_m4 L) ⟨v0, nm_r (e' := upd st (L * 4) k) (by rw [c0]) (br_f (by decide) ?_)⟩
  unfold wX_addStmt_65
  refine ⟨v1, nm_r (e' := upd (upd st (L * 4) k) (L * 4 + 1) a) (by rw [c1]) (br_f (by decide) ?_)⟩
  unfold wX_addStmt_85
  refine ⟨v2, nm_r (e' := upd (upd (upd st (L * 4) k) (L * 4 + 1) a) (L * 4 + 2) b) (by rw [c2]) (br_t (by decide) ?_)⟩
  unfold wX_addStmt_106
  refine ⟨v3, nm_r (e' := dl_w st L k a b 0) (by rw [c3]; rfl) (nm_r (nI_1 L) (dx_reset ?_))⟩
  show post (nI (L + 1) - 1) _
  rw [nI_pred]
  exact h
theorem dx_add3 {post : Int32 → St2 → Prop} {L : Nat} {k a b c : Int32} (hL : L < 64) (h : post (nI L) (xP, xC, xA, nI (L + 1), xO, 0, 0, -1, dA, aA, po, dl_w st L k a b c, jm, pl, op, el, so, ip, va, ov, dl_zn oc 4)) : ∀ x6 : Int32, x6 = nI L * 4 → (vp_in x6 256 ∧ ∀ s7 : Nat → Int32, s7 = upd st x6.toNatClampNeg k → (((3 : Int32) < 1 → wX_addStmt_65 post b c 3 x6 0 (x6 + 1) xP xC xA (nI L) xO xQ xS xK dA aA po s7 jm pl op el so ip va ov oc) ∧ (¬ (3 : Int32) < 1 → wX_addStmt_65 post b c 3 x6 a (x6 + 1) xP xC xA (nI L) xO xQ xS xK dA aA po s7 jm pl op el so ip va ov oc))) := by
  obtain ⟨v0, c0⟩ := dl_s0 hL
  obtain ⟨v1, c1⟩ := dl_s1 hL
  obtain ⟨v2, c2⟩ := dl_s2 hL
  obtain ⟨v3, c3⟩ := dl_s3 hL
  refine nm_r (dl_m4 L) ⟨v0, nm_r (e' := upd st (L * 4) k) (by rw [c0]) (br_f (by decide) ?_)⟩
  unfold wX_addStmt_65
  refine ⟨v1, nm_r (e' := upd (upd st (L * 4) k) (L * 4 + 1) a) (by rw [c1]) (br_f (by decide) ?_)⟩
  unfold wX_addStmt_85
  refine ⟨v2, nm_r (e' := upd (upd (upd st (L * 4) k) (L * 4 + 1) a) (L * 4 + 2) b) (by rw [c2]) (br_f (by decide) ?_)⟩
  unfold wX_addStmt_106
  refine ⟨v3, nm_r (e' := dl_w st L k a b c) (by rw [c3]; rfl) (nm_r (nI_1 L) (dx_reset ?_))⟩
  show post (nI (L + 1) - 1) _
  rw [nI_pred]
  exact h
theorem dp_a1 {post : Int32 → St2 → Prop} {L : Nat} {a b c : Int32} (hL : L < 64) (va' : dl_v a) (q : post (nI L) (xP, 64, xA, nI (L + 1), xO, 0, 0, -1, dA, aA, po, dl_w st L 1 a b 0, jm, pl, op, el, so, ip, va, ov, dl_zn oc 4)) : wpX_addStmt post (xP, 64, xA, nI L, xO, xQ, xS, xK, dA, aA, po, st, jm, pl, op, el, so, ip, va, ov, oc) 1 a b c := by
  obtain ⟨t, h1, rfl⟩ := va'
  have nf : ¬ (64 : Int32) ≤ nI L := nI_ge (b := 64) hL (by omega)
  unfold wpX_addStmt
  refine br_f nf ?_
  unfold wpX_operandsFit
  refine br_f (by decide) (br_f (by decide) (br_t rfl (dx_isVariable1 h1 ⟨rfl, br_f (by decide) (?_)⟩)))
  unfold wpX_operandCount
  exact br_f (by decide) (br_f (by decide) (br_t rfl (dx_add2 hL q)))
theorem dp_a2 {post : Int32 → St2 → Prop} {L : Nat} {a b c : Int32} (hL : L < 64) (va' : dl_v a) (vb' : dl_v b) (q : post (nI L) (xP, 64, xA, nI (L + 1), xO, 0, 0, -1, dA, aA, po, dl_w st L 2 a b 0, jm, pl, op, el, so, ip, va, ov, dl_zn oc 4)) : wpX_addStmt post (xP, 64, xA, nI L, xO, xQ, xS, xK, dA, aA, po, st, jm, pl, op, el, so, ip, va, ov, oc) 2 a b c := by
  obtain ⟨t, h1, rfl⟩ := va'
  obtain ⟨s, h2, rfl⟩ := vb'
  have nf : ¬ (64 : Int32) ≤ nI L := nI_ge (b := 64) hL (by omega)
  unfold wpX_addStmt
  refine br_f nf ?_
  unfold wpX_operandsFit
  refine br_f (by decide) (br_f (by decide) (br_f (by decide) (br_t rfl (dx_isVariable1 h1 (br_f (by decide) (dx_isVariable1 h2 (br_f (by decide) (br_f (by decide) (?_)))))))))
  unfold wpX_operandCount
  exact br_f (by decide) (br_f (by decide) (br_f (by decide) (br_t rfl (dx_add2 hL q))))
theorem dp_a3 {post : Int32 → St2 → Prop} {L : Nat} {a b c : Int32} (hL : L < 64) (va' : dl_v a) (vb' : dl_v b) (vc' : dl_v c) (q : post (nI L) (xP, 64, xA, nI (L + 1), xO, 0, 0, -1, dA, aA, po, dl_w st L 3 a b c, jm, pl, op, el, so, ip, va, ov, dl_zn oc 4)) : wpX_addStmt post (xP, 64, xA, nI L, xO, xQ, xS, xK, dA, aA, po, st, jm, pl, op, el, so, ip, va, ov, oc) 3 a b c := by
  obtain ⟨t, h1, rfl⟩ := va'
  obtain ⟨s, h2, rfl⟩ := vb'
  obtain ⟨m, h3, rfl⟩ := vc'
  have nf : ¬ (64 : Int32) ≤ nI L := nI_ge (b := 64) hL (by omega)
  unfold wpX_addStmt
  refine br_f nf ?_
  unfold wpX_operandsFit
  refine br_f (by decide) (br_f (by decide) (br_f (by decide) (br_f (by decide) (br_t rfl (dx_isVariable1 h1 (br_f (by decide) (dx_isVariable1 h2 (br_f (by decide) (dx_isVariable1 h3 (br_f (by decide) (br_f (by decide) (?_))))))))))))
  unfold wpX_operandCount
  exact br_f (by decide) (br_f (by decide) (br_f (by decide) (br_f (by decide) (br_t rfl (dx_add3 hL q)))))
theorem dp_a4 {post : Int32 → St2 → Prop} {L : Nat} {a b c : Int32} (hL : L < 64) (va' : dl_v a) (vb' : dl_v b) (vc' : dl_v c) (q : post (nI L) (xP, 64, xA, nI (L + 1), xO, 0, 0, -1, dA, aA, po, dl_w st L 4 a b c, jm, pl, op, el, so, ip, va, ov, dl_zn oc 4)) : wpX_addStmt post (xP, 64, xA, nI L, xO, xQ, xS, xK, dA, aA, po, st, jm, pl, op, el, so, ip, va, ov, oc) 4 a b c := by
  obtain ⟨t, h1, rfl⟩ := va'
  obtain ⟨s, h2, rfl⟩ := vb'
  obtain ⟨m, h3, rfl⟩ := vc'
  have nf : ¬ (64 : Int32) ≤ nI L := nI_ge (b := 64) hL (by omega)
  unfold wpX_addStmt
  refine br_f nf ?_
  unfold wpX_operandsFit
  refine br_f (by decide) (br_f (by decide) (br_f (by decide) (br_f (by decide) (br_f (by decide) (br_t rfl (dx_isVariable1 h1 (br_f (by decide) (dx_isVariable1 h2 (br_f (by decide) (dx_isVariable1 h3 (br_f (by decide) (br_f (by decide) (?_)))))))))))))
  unfold wpX_operandCount
  exact br_f (by decide) (br_f (by decide) (br_f (by decide) (br_f (by decide) (br_f (by decide) (br_t rfl (dx_add3 hL q))))))
theorem dp_a5 {post : Int32 → St2 → Prop} {L : Nat} {a b c : Int32} (hL : L < 64) (va' : dl_v a) (vb' : dl_v b) (vc' : dl_v c) (q : post (nI L) (xP, 64, xA, nI (L + 1), xO, 0, 0, -1, dA, aA, po, dl_w st L 5 a b c, jm, pl, op, el, so, ip, va, ov, dl_zn oc 4)) : wpX_addStmt post (xP, 64, xA, nI L, xO, xQ, xS, xK, dA, aA, po, st, jm, pl, op, el, so, ip, va, ov, oc) 5 a b c := by
  obtain ⟨t, h1, rfl⟩ := va'
  obtain ⟨s, h2, rfl⟩ := vb'
  obtain ⟨m, h3, rfl⟩ := vc'
  have nf : ¬ (64 : Int32) ≤ nI L := nI_ge (b := 64) hL (by omega)
  unfold wpX_addStmt
  refine br_f nf ?_
  unfold wpX_operandsFit
  refine br_f (by decide) (br_f (by decide) (br_f (by decide) (br_f (by decide) (br_f (by decide) (br_f (by decide) (br_t rfl (dx_isVariable1 h1 (br_f (by decide) (dx_isVariable1 h2 (br_f (by decide) (dx_isVariable1 h3 (br_f (by decide) (br_f (by decide) (?_))))))))))))))
  unfold wpX_operandCount
  exact br_f (by decide) (br_f (by decide) (br_f (by decide) (br_f (by decide) (br_f (by decide) (br_f (by decide) (br_t rfl (dx_add3 hL q)))))))
theorem dp_a6 {post : Int32 → St2 → Prop} {L : Nat} {a b c : Int32} (hL : L < 64) (va' : dl_v a) (vb' : dl_v b) (vc' : dl_v c) (q : post (nI L) (xP, 64, xA, nI (L + 1), xO, 0, 0, -1, dA, aA, po, dl_w st L 6 a b c, jm, pl, op, el, so, ip, va, ov, dl_zn oc 4)) : wpX_addStmt post (xP, 64, xA, nI L, xO, xQ, xS, xK, dA, aA, po, st, jm, pl, op, el, so, ip, va, ov, oc) 6 a b c := by
  obtain ⟨t, h1, rfl⟩ := va'
  obtain ⟨s, h2, rfl⟩ := vb'
  obtain ⟨m, h3, rfl⟩ := vc'
  have nf : ¬ (64 : Int32) ≤ nI L := nI_ge (b := 64) hL (by omega)
  unfold wpX_addStmt
  refine br_f nf ?_
  unfold wpX_operandsFit
  refine br_f (by decide) (br_f (by decide) (br_f (by decide) (br_f (by decide) (br_f (by decide) (br_f (by decide) (br_f (by decide) (br_t rfl (dx_isVariable1 h1 (br_f (by decide) (dx_isVariable1 h2 (br_f (by decide) (dx_isVariable1 h3 (br_f (by decide) (br_f (by decide) (?_)))))))))))))))
  unfold wpX_operandCount
  exact br_f (by decide) (br_f (by decide) (br_f (by decide) (br_f (by decide) (br_f (by decide) (br_f (by decide) (br_f (by decide) (br_t rfl (dx_add3 hL q))))))))
theorem dp_a7 {post : Int32 → St2 → Prop} {L : Nat} {a b c : Int32} (hL : L < 64) (va' : dl_v a) (vb' : dl_v b) (vc' : dl_v c) (q : post (nI L) (xP, 64, xA, nI (L + 1), xO, 0, 0, -1, dA, aA, po, dl_w st L 7 a b c, jm, pl, op, el, so, ip, va, ov, dl_zn oc 4)) : wpX_addStmt post (xP, 64, xA, nI L, xO, xQ, xS, xK, dA, aA, po, st, jm, pl, op, el, so, ip, va, ov, oc) 7 a b c := by
  obtain ⟨t, h1, rfl⟩ := va'
  obtain ⟨s, h2, rfl⟩ := vb'
  obtain ⟨m, h3, rfl⟩ := vc'
  have nf : ¬ (64 : Int32) ≤ nI L := nI_ge (b := 64) hL (by omega)
  unfold wpX_addStmt
  refine br_f nf ?_
  unfold wpX_operandsFit
  refine br_f (by decide) (br_f (by decide) (br_f (by decide) (br_f (by decide) (br_f (by decide) (br_f (by decide) (br_f (by decide) (br_f (by decide) (br_t rfl (dx_isVariable1 h1 (br_f (by decide) (dx_isVariable1 h2 (br_f (by decide) (dx_isVariable1 h3 (br_f (by decide) (br_f (by decide) (?_))))))))))))))))
  unfold wpX_operandCount
  exact br_f (by decide) (br_f (by decide) (br_f (by decide) (br_f (by decide) (br_f (by decide) (br_f (by decide) (br_f (by decide) (br_f (by decide) (br_t rfl (dx_add3 hL q)))))))))
theorem dp_a8 {post : Int32 → St2 → Prop} {L : Nat} {a b c : Int32} (hL : L < 64) (va' : dl_v a) (q : post (nI L) (xP, 64, xA, nI (L + 1), xO, 0, 0, -1, dA, aA, po, dl_w st L 8 a 0 0, jm, pl, op, el, so, ip, va, ov, dl_zn oc 4)) : wpX_addStmt post (xP, 64, xA, nI L, xO, xQ, xS, xK, dA, aA, po, st, jm, pl, op, el, so, ip, va, ov, oc) 8 a b c := by
  obtain ⟨t, h1, rfl⟩ := va'
  have nf : ¬ (64 : Int32) ≤ nI L := nI_ge (b := 64) hL (by omega)
  unfold wpX_addStmt
  refine br_f nf ?_
  unfold wpX_operandsFit
  refine br_f (by decide) (br_f (by decide) (br_f (by decide) (br_f (by decide) (br_f (by decide) (br_f (by decide) (br_f (by decide) (br_f (by decide) (br_f (by decide) (br_t rfl (dx_isVariable1 h1 ⟨rfl, br_f (by decide) (?_)⟩))))))))))
  unfold wpX_operandCount
  exact br_f (by decide) (br_f (by decide) (br_f (by decide) (br_f (by decide) (br_f (by decide) (br_f (by decide) (br_f (by decide) (br_f (by decide) (br_f (by decide) (br_t rfl (dx_add1 hL q))))))))))
theorem dp_a9 {post : Int32 → St2 → Prop} {L : Nat} {a b c : Int32} (hL : L < 64) (q : post (nI L) (xP, 64, xA, nI (L + 1), xO, 0, 0, -1, dA, aA, po, dl_w st L 9 0 0 0, jm, pl, op, el, so, ip, va, ov, dl_zn oc 4)) : wpX_addStmt post (xP, 64, xA, nI L, xO, xQ, xS, xK, dA, aA, po, st, jm, pl, op, el, so, ip, va, ov, oc) 9 a b c := by
  have nf : ¬ (64 : Int32) ≤ nI L := nI_ge (b := 64) hL (by omega)
  unfold wpX_addStmt
  refine br_f nf ?_
  unfold wpX_operandsFit
  refine br_f (by decide) (br_f (by decide) (br_f (by decide) (br_f (by decide) (br_f (by decide) (br_f (by decide) (br_f (by decide) (br_f (by decide) (br_f (by decide) (br_f (by decide) (br_t rfl (br_f (by decide) (?_))))))))))))
  unfold wpX_operandCount
  exact br_f (by decide) (br_f (by decide) (br_f (by decide) (br_f (by decide) (br_f (by decide) (br_f (by decide) (br_f (by decide) (br_f (by decide) (br_f (by decide) (br_f (by decide) (br_t rfl (dx_add0 hL q)))))))))))
theorem dp_a10 {post : Int32 → St2 → Prop} {L : Nat} {a b c : Int32} (hL : L < 64) (q : post (nI L) (xP, 64, xA, nI (L + 1), xO, 0, 0, -1, dA, aA, po, dl_w st L 10 0 0 0, jm, pl, op, el, so, ip, va, ov, dl_zn oc 4)) : wpX_addStmt post (xP, 64, xA, nI L, xO, xQ, xS, xK, dA, aA, po, st, jm, pl, op, el, so, ip, va, ov, oc) 10 a b c := by
  have nf : ¬ (64 : Int32) ≤ nI L := nI_ge (b := 64) hL (by omega)
  unfold wpX_addStmt
  refine br_f nf ?_
  unfold wpX_operandsFit
  refine br_f (by decide) (br_f (by decide) (br_f (by decide) (br_f (by decide) (br_f (by decide) (br_f (by decide) (br_f (by decide) (br_f (by decide) (br_f (by decide) (br_f (by decide) (br_f (by decide) (br_t rfl (br_f (by decide) (?_)))))))))))))
  unfold wpX_operandCount
  exact br_f (by decide) (br_f (by decide) (br_f (by decide) (br_f (by decide) (br_f (by decide) (br_f (by decide) (br_f (by decide) (br_f (by decide) (br_f (by decide) (br_f (by decide) (br_f (by decide) (br_t rfl (dx_add0 hL q))))))))))))
theorem dp_a11 {post : Int32 → St2 → Prop} {L : Nat} {a b c : Int32} (hL : L < 64) (va' : dl_v a) (q : post (nI L) (xP, 64, xA, nI (L + 1), xO, 0, 0, -1, dA, aA, po, dl_w st L 11 a 0 0, jm, pl, op, el, so, ip, va, ov, dl_zn oc 4)) : wpX_addStmt post (xP, 64, xA, nI L, xO, xQ, xS, xK, dA, aA, po, st, jm, pl, op, el, so, ip, va, ov, oc) 11 a b c := by
  obtain ⟨t, h1, rfl⟩ := va'
  have nf : ¬ (64 : Int32) ≤ nI L := nI_ge (b := 64) hL (by omega)
  unfold wpX_addStmt
  refine br_f nf ?_
  unfold wpX_operandsFit
  refine br_f (by decide) (br_f (by decide) (br_f (by decide) (br_f (by decide) (br_f (by decide) (br_f (by decide) (br_f (by decide) (br_f (by decide) (br_f (by decide) (br_f (by decide) (br_f (by decide) (br_f (by decide) (br_t rfl (dx_isVariable1 h1 ⟨rfl, br_f (by decide) (?_)⟩)))))))))))))
  unfold wpX_operandCount
  exact br_f (by decide) (br_f (by decide) (br_f (by decide) (br_f (by decide) (br_f (by decide) (br_f (by decide) (br_f (by decide) (br_f (by decide) (br_f (by decide) (br_f (by decide) (br_f (by decide) (br_f (by decide) (br_t rfl (dx_add1 hL q)))))))))))))
theorem dp_a12 {post : Int32 → St2 → Prop} {L : Nat} {a b c : Int32} (hL : L < 64) (va' : dl_hc a) (vb' : dl_v b) (q : post (nI L) (xP, 64, xA, nI (L + 1), xO, 0, 0, -1, dA, aA, po, dl_w st L 12 a b 0, jm, pl, op, el, so, ip, va, ov, dl_zn oc 4)) : wpX_addStmt post (xP, 64, xA, nI L, xO, xQ, xS, xK, dA, aA, po, st, jm, pl, op, el, so, ip, va, ov, oc) 12 a b c := by
  obtain ⟨t, h1, rfl⟩ := va'
  obtain ⟨s, h2, rfl⟩ := vb'
  have nf : ¬ (64 : Int32) ≤ nI L := nI_ge (b := 64) hL (by omega)
  unfold wpX_addStmt
  refine br_f nf ?_
  unfold wpX_operandsFit
  refine br_f (by decide) (br_f (by decide) (br_f (by decide) (br_f (by decide) (br_f (by decide) (br_f (by decide) (br_f (by decide) (br_f (by decide) (br_f (by decide) (br_f (by decide) (br_f (by decide) (br_f (by decide) (br_f (by decide) (br_t rfl (dx_isChannel1 h1 (br_f (by decide) (dx_isVariable1 h2 (br_f (by decide) (br_f (by decide) (?_)))))))))))))))))))
  unfold wpX_operandCount
  exact br_f (by decide) (br_f (by decide) (br_f (by decide) (br_f (by decide) (br_f (by decide) (br_f (by decide) (br_f (by decide) (br_f (by decide) (br_f (by decide) (br_f (by decide) (br_f (by decide) (br_f (by decide) (br_f (by decide) (br_t rfl (dx_add2 hL q))))))))))))))
theorem dp_a13 {post : Int32 → St2 → Prop} {L : Nat} {a b c : Int32} (hL : L < 64) (va' : dl_v a) (vb' : dl_v b) (q : post (nI L) (xP, 64, xA, nI (L + 1), xO, 0, 0, -1, dA, aA, po, dl_w st L 13 a b 0, jm, pl, op, el, so, ip, va, ov, dl_zn oc 4)) : wpX_addStmt post (xP, 64, xA, nI L, xO, xQ, xS, xK, dA, aA, po, st, jm, pl, op, el, so, ip, va, ov, oc) 13 a b c := by
  obtain ⟨t, h1, rfl⟩ := va'
  obtain ⟨s, h2, rfl⟩ := vb'
  have nf : ¬ (64 : Int32) ≤ nI L := nI_ge (b := 64) hL (by omega)
  unfold wpX_addStmt
  refine br_f nf ?_
  unfold wpX_operandsFit
  refine br_f (by decide) (br_f (by decide) (br_f (by decide) (br_f (by decide) (br_f (by decide) (br_f (by decide) (br_f (by decide) (br_f (by decide) (br_f (by decide) (br_f (by decide) (br_f (by decide) (br_f (by decide) (br_f (by decide) (br_f (by decide) (br_t rfl (dx_isVariable1 h1 (br_f (by decide) (dx_isVariable1 h2 (br_f (by decide) (br_f (by decide) (?_))))))))))))))))))))
  unfold wpX_operandCount
  exact br_f (by decide) (br_f (by decide) (br_f (by decide) (br_f (by decide) (br_f (by decide) (br_f (by decide) (br_f (by decide) (br_f (by decide) (br_f (by decide) (br_f (by decide) (br_f (by decide) (br_f (by decide) (br_f (by decide) (br_f (by decide) (br_t rfl (dx_add2 hL q)))))))))))))))
theorem dp_add {post : Int32 → St2 → Prop} {P L : Nat} {S : Nat → Int32} {u : St2} {k a b c : Int32} (h : dp_X P L S u) (hl : L < 64) (ok : dl_ok k a b c) (q : ∀ u', dp_X P (L + 1) (dl_w S L k (dp_na k a) (dp_nb k b) (dp_nc k c)) u' → post (nI L) u') : wpX_addStmt post u k a b c := by
  obtain ⟨xP, xC, xA, xL, xO, xQ, xS, xK, dA, aA, po, st, jm, pl, op, el, so, ip, va, ov, oc⟩ := u
  obtain ⟨rfl, rfl, rfl, rfl, rfl, ⟨P2, P8⟩, hL, hT⟩ := h
  have K : ∀ (xQ xS xK : Int32) (oc : Nat → Int32), dp_X P (L + 1) (dl_w S L k (dp_na k a) (dp_nb k b) (dp_nc k c)) (nI P, 64, 0, nI (L + 1), xO, xQ, xS, xK, dA, aA, po, dl_w st L k (dp_na k a) (dp_nb k b) (dp_nc k c), jm, pl, op, el, so, (fun _ => 0), va, ov, oc) := fun _ _ _ _ => ⟨rfl, rfl, rfl, rfl, rfl, ⟨P2, P8⟩, by omega, dp_T_w hT (dp_okn ok)⟩
  rcases ok with ⟨rfl, h1⟩ | ⟨rfl, h1, h2⟩ | ⟨rfl, h1, h2⟩ | ⟨rfl | rfl | rfl | rfl | rfl, h1, h2, h3⟩ | ⟨rfl | rfl, h1⟩ | (rfl | rfl) | ⟨rfl, h1, h2⟩
  · rw [dp_na1, dp_nb1, dp_nc1] at K q
    exact dp_a1 hl h1 (q _ (K 0 0 (-1) (dl_zn oc 4)))
  · rw [dp_na2, dp_nb2, dp_nc2] at K q
    exact dp_a2 hl h1 h2 (q _ (K 0 0 (-1) (dl_zn oc 4)))
  · rw [dp_na13, dp_nb13, dp_nc13] at K q
    exact dp_a13 hl h1 h2 (q _ (K 0 0 (-1) (dl_zn oc 4)))
  · rw [dp_na3, dp_nb3, dp_nc3] at K q
    exact dp_a3 hl h1 h2 h3 (q _ (K 0 0 (-1) (dl_zn oc 4)))
  · rw [dp_na4, dp_nb4, dp_nc4] at K q
    exact dp_a4 hl h1 h2 h3 (q _ (K 0 0 (-1) (dl_zn oc 4)))
  · rw [dp_na5, dp_nb5, dp_nc5] at K q
    exact dp_a5 hl h1 h2 h3 (q _ (K 0 0 (-1) (dl_zn oc 4)))
  · rw [dp_na6, dp_nb6, dp_nc6] at K q
    exact dp_a6 hl h1 h2 h3 (q _ (K 0 0 (-1) (dl_zn oc 4)))
  · rw [dp_na7, dp_nb7, dp_nc7] at K q
    exact dp_a7 hl h1 h2 h3 (q _ (K 0 0 (-1) (dl_zn oc 4)))
  · rw [dp_na8, dp_nb8, dp_nc8] at K q
    exact dp_a8 hl h1 (q _ (K 0 0 (-1) (dl_zn oc 4)))
  · rw [dp_na11, dp_nb11, dp_nc11] at K q
    exact dp_a11 hl h1 (q _ (K 0 0 (-1) (dl_zn oc 4)))
  · rw [dp_na9, dp_nb9, dp_nc9] at K q
    exact dp_a9 hl  (q _ (K 0 0 (-1) (dl_zn oc 4)))
  · rw [dp_na10, dp_nb10, dp_nc10] at K q
    exact dp_a10 hl  (q _ (K 0 0 (-1) (dl_zn oc 4)))
  · rw [dp_na12, dp_nb12, dp_nc12] at K q
    exact dp_a12 hl h1 h2 (q _ (K 0 0 (-1) (dl_zn oc 4)))
end
end
section
/-! p18: a check of the component -/
section
variable {xP xC xA xL xO xQ xS xK : Int32} {dA aA po st jm pl op el so ip va ov oc : Nat → Int32}
def dp_IV (P L p : Nat) (S aA po : Nat → Int32) (i D : Nat) (op el jm pl : Nat → Int32) : Prop := D ≤ 8 ∧ ds_N S (ds_lv P aA po p) (ds_lc P aA po p) i D op el jm ∧ dl_K (fun i => S (i * 4)) L i D op el jm ∧ ds_PL P aA pl S op (ds_lv P aA po p) D p
theorem dp_ct {S : Nat → Int32} {i : Nat} : dl_ct (S (i * 4)) ↔ ds_ct S i := by
  unfold dl_ct ds_ct ds_br ds_jp
  constructor
  · rintro (h | h | h | h)
    · exact Or.inl (Or.inl h)
    · exact Or.inr (Or.inl h)
    · exact Or.inr (Or.inr h)
    · exact Or.inl (Or.inr h)
  · rintro ((h | h) | (h | h))
    · exact Or.inl h
    · exact Or.inr (Or.inr (Or.inr h))
    · exact Or.inr (Or.inl h)
    · exact Or.inr (Or.inr (Or.inl h))
theorem dp_nn {P L p i D : Nat} {S : Nat → Int32} (hi : i < L) (h : dp_IV P L p S aA po i D op el jm pl) (k : ¬ ds_ct S i) (x : ds_FW S (ds_lv P aA po p) (ds_lc P aA po p) i → ds_rr P aA (fun o => pl (D * 8 + o)) p ∧ (¬ S (i * 4) = 1 → ds_lv P aA po p (ds_b S i)) ∧ ((S (i * 4) = 3 ∨ S (i * 4) = 4 ∨ S (i * 4) = 5 ∨ S (i * 4) = 6 ∨ S (i * 4) = 7) → ds_lv P aA po p (ds_c S i))) : dp_IV P L p S aA po (i + 1) D op el jm pl :=
  ⟨h.1, ds_N_n h.2.1 k (fun f => (x f).2) (fun d hd nl f => nl (h.2.2.2 D (Nat.le_refl _) (x f).1 d hd)), dl_K_n hi h.2.2.1 (fun z => k (dp_ct.mp z)), h.2.2.2⟩
theorem dp_sa {P p i t : Nat} {S s : Nat → Int32} (hp : p < 32) (k : ¬ S (i * 4) = 12) (ha : ds_a S i = t) (fl : dl_fl P aA po s t 0) (f : ds_FW S (ds_lv P aA po p) (ds_lc P aA po p) i) : ds_rr P aA s p := by
  rcases f.2.2 with z | z
  · exact absurd z.1 k
  · have y := z.2
    rw [ha] at y
    exact ds_fl_rr hp fl y.2
theorem dp_so {P p i t : Nat} {S s : Nat → Int32} (hp : p < 32) (k : S (i * 4) = 12) (ha : ds_a S i = t) (fl : dl_fl P aA po s (16 + t) 0) (f : ds_FW S (ds_lv P aA po p) (ds_lc P aA po p) i) : ds_rr P aA s p := by
  rcases f.2.2 with z | z
  · have y := z.2
    rw [ha] at y
    exact ds_fl_rr hp fl y.2
  · exact absurd k z.1
theorem dp_r1 {P D p : Nat} (hP : P ≤ 8) (g : ds_rr P aA (dl_S1 pl so D) p) : ds_rr P aA (fun o => pl (D * 8 + o)) p := ds_rr_c (fun o ho => by unfold dl_S1; rw [dl_row_l (by omega)]) g
theorem dp_r2 {P D p b : Nat} (hP : P ≤ 8) (g : ds_rr P aA (dl_S2 pl po so D b) p) : ds_rr P aA (fun o => pl (D * 8 + o)) p ∧ dl_rd P aA po b p := by
  have g2 : ds_rr P aA (fun o => pl (D * 8 + o) &&& po (b * 8 + o)) p := by
    refine ds_rr_c (fun o ho => ?_) g
    unfold dl_S2 dl_Sj dl_S1
    rw [dl_row_l (by omega), dl_row_l (by omega)]
  exact ⟨ds_rr_1 (a := fun o => pl (D * 8 + o)) (b := fun o => po (b * 8 + o)) g2, ds_rr_2 (a := fun o => pl (D * 8 + o)) (b := fun o => po (b * 8 + o)) g2⟩
theorem dp_r3 {P D p b c : Nat} (hP : P ≤ 8) (g : ds_rr P aA (dl_Sj po (dl_S2 pl po so D b) c) p) : ds_rr P aA (fun o => pl (D * 8 + o)) p ∧ dl_rd P aA po b p ∧ dl_rd P aA po c p := by
  have g2 : ds_rr P aA (fun o => dl_S2 pl po so D b o &&& po (c * 8 + o)) p := by
    refine ds_rr_c (fun o ho => ?_) g
    unfold dl_Sj
    rw [dl_row_l (by omega)]
  have g3 := dp_r2 hP (ds_rr_1 (a := dl_S2 pl po so D b) (b := fun o => po (c * 8 + o)) g2)
  exact ⟨g3.1, g3.2, ds_rr_2 (a := dl_S2 pl po so D b) (b := fun o => po (c * 8 + o)) g2⟩
theorem dp_rt {P p b : Nat} {s : Nat → Int32} (hP : P ≤ 8) (g : ds_rr P aA (dl_St po s b) p) : dl_rd P aA po b p := ds_rr_c (s' := fun o => po (b * 8 + o)) (fun o ho => by unfold dl_St; rw [dl_row_l (by omega)]) g
theorem dp_g1 {post : Int32 → St2 → Prop} {P L p i D : Nat} {S : Nat → Int32} (hP : P ≤ 8) (hp : p < 32) (hL : L ≤ 64) (hi : i < L) (hT : dp_T L st S) (h : dp_IV P L p S aA po i D op el jm pl) (q : ∀ (r : Int32) (D' : Nat) (jm' pl' op' el' so' : Nat → Int32), (r = 0 ∨ ∃ c, 1 ≤ c ∧ c ≤ 4 ∧ r = nI c) → (r = 0 → dp_IV P L p S aA po (i + 1) D' op' el' jm' pl') → post r (nI P, xC, 0, nI L, nI D', xQ, xS, xK, dA, aA, po, st, jm', pl', op', el', so', ip, va, ov, oc)) (k : S (i * 4) = 1) (va' : dl_v (S (i * 4 + 1))) : wpX_statementError post (nI P, xC, 0, nI L, nI D, xQ, xS, xK, dA, aA, po, st, jm, pl, op, el, so, ip, va, ov, oc) (nI i) := by
  have p0 := hT.1 (i * 4) (by omega)
  have p1 := hT.1 (i * 4 + 1) (by omega)
  have p2 := hT.1 (i * 4 + 2) (by omega)
  have p3 := hT.1 (i * 4 + 3) (by omega)
  obtain ⟨t, ht, ea⟩ := va'
  have ia : ds_a S i = t := by
    unfold ds_a
    rw [ea, nI_clamp (by omega)]
  have nc : ¬ ds_ct S i := by
    unfold ds_ct ds_br ds_jp
    rw [k]
    decide
  refine dx_st1 hP h.1 (by omega) (p0.trans k) (p1.trans ea) (by omega) (fun f => q 0 D jm pl op el _ (Or.inl rfl) (fun _ => dp_nn hi h nc (fun y => ?_))) (fun _ => q 3 D jm pl op el _ (Or.inr ⟨3, by omega, by omega, rfl⟩) (fun z => absurd z (by decide)))
  exact ⟨dp_r1 hP (dp_sa hp (by rw [k]; decide) ia f y), fun z => absurd k z, fun z => absurd z (by rw [k]; decide)⟩
theorem dp_g2 {post : Int32 → St2 → Prop} {P L p i D : Nat} {S : Nat → Int32} (hP : P ≤ 8) (hp : p < 32) (hL : L ≤ 64) (hi : i < L) (hT : dp_T L st S) (h : dp_IV P L p S aA po i D op el jm pl) (q : ∀ (r : Int32) (D' : Nat) (jm' pl' op' el' so' : Nat → Int32), (r = 0 ∨ ∃ c, 1 ≤ c ∧ c ≤ 4 ∧ r = nI c) → (r = 0 → dp_IV P L p S aA po (i + 1) D' op' el' jm' pl') → post r (nI P, xC, 0, nI L, nI D', xQ, xS, xK, dA, aA, po, st, jm', pl', op', el', so', ip, va, ov, oc)) (k : S (i * 4) = 2) (va' : dl_v (S (i * 4 + 1))) (vb' : dl_v (S (i * 4 + 2))) : wpX_statementError post (nI P, xC, 0, nI L, nI D, xQ, xS, xK, dA, aA, po, st, jm, pl, op, el, so, ip, va, ov, oc) (nI i) := by
  have p0 := hT.1 (i * 4) (by omega)
  have p1 := hT.1 (i * 4 + 1) (by omega)
  have p2 := hT.1 (i * 4 + 2) (by omega)
  have p3 := hT.1 (i * 4 + 3) (by omega)
  obtain ⟨t, ht, ea⟩ := va'
  have ia : ds_a S i = t := by
    unfold ds_a
    rw [ea, nI_clamp (by omega)]
  obtain ⟨b, hb, eb⟩ := vb'
  have ib : ds_b S i = b := by
    unfold ds_b
    rw [eb, nI_clamp (by omega)]
  have nc : ¬ ds_ct S i := by
    unfold ds_ct ds_br ds_jp
    rw [k]
    decide
  refine dx_st2 hP h.1 (by omega) (p0.trans k) (p1.trans ea) (p2.trans eb) (by omega) (by omega) (fun f => q 0 D jm pl op el _ (Or.inl rfl) (fun _ => dp_nn hi h nc (fun y => ?_))) (fun _ => q 3 D jm pl op el _ (Or.inr ⟨3, by omega, by omega, rfl⟩) (fun z => absurd z (by decide)))
  have g := dp_r2 hP (dp_sa hp (by rw [k]; decide) ia f y)
  exact ⟨g.1, fun _ => by rw [ib]; exact ⟨hb, g.2⟩, fun z => absurd z (by rw [k]; decide)⟩
theorem dp_g12 {post : Int32 → St2 → Prop} {P L p i D : Nat} {S : Nat → Int32} (hP : P ≤ 8) (hp : p < 32) (hL : L ≤ 64) (hi : i < L) (hT : dp_T L st S) (h : dp_IV P L p S aA po i D op el jm pl) (q : ∀ (r : Int32) (D' : Nat) (jm' pl' op' el' so' : Nat → Int32), (r = 0 ∨ ∃ c, 1 ≤ c ∧ c ≤ 4 ∧ r = nI c) → (r = 0 → dp_IV P L p S aA po (i + 1) D' op' el' jm' pl') → post r (nI P, xC, 0, nI L, nI D', xQ, xS, xK, dA, aA, po, st, jm', pl', op', el', so', ip, va, ov, oc)) (k : S (i * 4) = 12) (va' : dl_hc (S (i * 4 + 1))) (vb' : dl_v (S (i * 4 + 2))) : wpX_statementError post (nI P, xC, 0, nI L, nI D, xQ, xS, xK, dA, aA, po, st, jm, pl, op, el, so, ip, va, ov, oc) (nI i) := by
  have p0 := hT.1 (i * 4) (by omega)
  have p1 := hT.1 (i * 4 + 1) (by omega)
  have p2 := hT.1 (i * 4 + 2) (by omega)
  have p3 := hT.1 (i * 4 + 3) (by omega)
  obtain ⟨t, ht, ea⟩ := va'
  have ia : ds_a S i = t := by
    unfold ds_a
    rw [ea, nI_clamp (by omega)]
  obtain ⟨b, hb, eb⟩ := vb'
  have ib : ds_b S i = b := by
    unfold ds_b
    rw [eb, nI_clamp (by omega)]
  have nc : ¬ ds_ct S i := by
    unfold ds_ct ds_br ds_jp
    rw [k]
    decide
  refine dx_st12 hP h.1 (by omega) (p0.trans k) (p1.trans ea) (p2.trans eb) (by omega) (by omega) (fun f => q 0 D jm pl op el _ (Or.inl rfl) (fun _ => dp_nn hi h nc (fun y => ?_))) (fun _ => q 3 D jm pl op el _ (Or.inr ⟨3, by omega, by omega, rfl⟩) (fun z => absurd z (by decide)))
  have g := dp_r2 hP (dp_so hp k ia f y)
  exact ⟨g.1, fun _ => by rw [ib]; exact ⟨hb, g.2⟩, fun z => absurd z (by rw [k]; decide)⟩
theorem dp_g3 {post : Int32 → St2 → Prop} {P L p i D : Nat} {S : Nat → Int32} (hP : P ≤ 8) (hp : p < 32) (hL : L ≤ 64) (hi : i < L) (hT : dp_T L st S) (h : dp_IV P L p S aA po i D op el jm pl) (q : ∀ (r : Int32) (D' : Nat) (jm' pl' op' el' so' : Nat → Int32), (r = 0 ∨ ∃ c, 1 ≤ c ∧ c ≤ 4 ∧ r = nI c) → (r = 0 → dp_IV P L p S aA po (i + 1) D' op' el' jm' pl') → post r (nI P, xC, 0, nI L, nI D', xQ, xS, xK, dA, aA, po, st, jm', pl', op', el', so', ip, va, ov, oc)) (k : S (i * 4) = 3) (va' : dl_v (S (i * 4 + 1))) (vb' : dl_v (S (i * 4 + 2))) (vc' : dl_v (S (i * 4 + 3))) : wpX_statementError post (nI P, xC, 0, nI L, nI D, xQ, xS, xK, dA, aA, po, st, jm, pl, op, el, so, ip, va, ov, oc) (nI i) := by
  have p0 := hT.1 (i * 4) (by omega)
  have p1 := hT.1 (i * 4 + 1) (by omega)
  have p2 := hT.1 (i * 4 + 2) (by omega)
  have p3 := hT.1 (i * 4 + 3) (by omega)
  obtain ⟨t, ht, ea⟩ := va'
  have ia : ds_a S i = t := by
    unfold ds_a
    rw [ea, nI_clamp (by omega)]
  obtain ⟨b, hb, eb⟩ := vb'
  have ib : ds_b S i = b := by
    unfold ds_b
    rw [eb, nI_clamp (by omega)]
  obtain ⟨c, hc, ec⟩ := vc'
  have ic : ds_c S i = c := by
    unfold ds_c
    rw [ec, nI_clamp (by omega)]
  have nc : ¬ ds_ct S i := by
    unfold ds_ct ds_br ds_jp
    rw [k]
    decide
  refine dx_st3 hP h.1 (by omega) (p0.trans k) (p1.trans ea) (p2.trans eb) (p3.trans ec) (by omega) (by omega) (by omega) (fun f => q 0 D jm pl op el _ (Or.inl rfl) (fun _ => dp_nn hi h nc (fun y => ?_))) (fun _ => q 3 D jm pl op el _ (Or.inr ⟨3, by omega, by omega, rfl⟩) (fun z => absurd z (by decide)))
  have g := dp_r3 hP (dp_sa hp (by rw [k]; decide) ia f y)
  exact ⟨g.1, fun _ => by rw [ib]; exact ⟨hb, g.2.1⟩, fun _ => by rw [ic]; exact ⟨hc, g.2.2⟩⟩
theorem dp_g4 {post : Int32 → St2 → Prop} {P L p i D : Nat} {S : Nat → Int32} (hP : P ≤ 8) (hp : p < 32) (hL : L ≤ 64) (hi : i < L) (hT : dp_T L st S) (h : dp_IV P L p S aA po i D op el jm pl) (q : ∀ (r : Int32) (D' : Nat) (jm' pl' op' el' so' : Nat → Int32), (r = 0 ∨ ∃ c, 1 ≤ c ∧ c ≤ 4 ∧ r = nI c) → (r = 0 → dp_IV P L p S aA po (i + 1) D' op' el' jm' pl') → post r (nI P, xC, 0, nI L, nI D', xQ, xS, xK, dA, aA, po, st, jm', pl', op', el', so', ip, va, ov, oc)) (k : S (i * 4) = 4) (va' : dl_v (S (i * 4 + 1))) (vb' : dl_v (S (i * 4 + 2))) (vc' : dl_v (S (i * 4 + 3))) : wpX_statementError post (nI P, xC, 0, nI L, nI D, xQ, xS, xK, dA, aA, po, st, jm, pl, op, el, so, ip, va, ov, oc) (nI i) := by
  have p0 := hT.1 (i * 4) (by omega)
  have p1 := hT.1 (i * 4 + 1) (by omega)
  have p2 := hT.1 (i * 4 + 2) (by omega)
  have p3 := hT.1 (i * 4 + 3) (by omega)
  obtain ⟨t, ht, ea⟩ := va'
  have ia : ds_a S i = t := by
    unfold ds_a
    rw [ea, nI_clamp (by omega)]
  obtain ⟨b, hb, eb⟩ := vb'
  have ib : ds_b S i = b := by
    unfold ds_b
    rw [eb, nI_clamp (by omega)]
  obtain ⟨c, hc, ec⟩ := vc'
  have ic : ds_c S i = c := by
    unfold ds_c
    rw [ec, nI_clamp (by omega)]
  have nc : ¬ ds_ct S i := by
    unfold ds_ct ds_br ds_jp
    rw [k]
    decide
  refine dx_st4 hP h.1 (by omega) (p0.trans k) (p1.trans ea) (p2.trans eb) (p3.trans ec) (by omega) (by omega) (by omega) (fun f => q 0 D jm pl op el _ (Or.inl rfl) (fun _ => dp_nn hi h nc (fun y => ?_))) (fun _ => q 3 D jm pl op el _ (Or.inr ⟨3, by omega, by omega, rfl⟩) (fun z => absurd z (by decide)))
  have g := dp_r3 hP (dp_sa hp (by rw [k]; decide) ia f y)
  exact ⟨g.1, fun _ => by rw [ib]; exact ⟨hb, g.2.1⟩, fun _ => by rw [ic]; exact ⟨hc, g.2.2⟩⟩
theorem dp_g5 {post : Int32 → St2 → Prop} {P L p i D : Nat} {S : Nat → Int32} (hP : P ≤ 8) (hp : p < 32) (hL : L ≤ 64) (hi : i < L) (hT : dp_T L st S) (h : dp_IV P L p S aA po i D op el jm pl) (q : ∀ (r : Int32) (D' : Nat) (jm' pl' op' el' so' : Nat → Int32), (r = 0 ∨ ∃ c, 1 ≤ c ∧ c ≤ 4 ∧ r = nI c) → (r = 0 → dp_IV P L p S aA po (i + 1) D' op' el' jm' pl') → post r (nI P, xC, 0, nI L, nI D', xQ, xS, xK, dA, aA, po, st, jm', pl', op', el', so', ip, va, ov, oc)) (k : S (i * 4) = 5) (va' : dl_v (S (i * 4 + 1))) (vb' : dl_v (S (i * 4 + 2))) (vc' : dl_v (S (i * 4 + 3))) : wpX_statementError post (nI P, xC, 0, nI L, nI D, xQ, xS, xK, dA, aA, po, st, jm, pl, op, el, so, ip, va, ov, oc) (nI i) := by
  have p0 := hT.1 (i * 4) (by omega)
  have p1 := hT.1 (i * 4 + 1) (by omega)
  have p2 := hT.1 (i * 4 + 2) (by omega)
  have p3 := hT.1 (i * 4 + 3) (by omega)
  obtain ⟨t, ht, ea⟩ := va'
  have ia : ds_a S i = t := by
    unfold ds_a
    rw [ea, nI_clamp (by omega)]
  obtain ⟨b, hb, eb⟩ := vb'
  have ib : ds_b S i = b := by
    unfold ds_b
    rw [eb, nI_clamp (by omega)]
  obtain ⟨c, hc, ec⟩ := vc'
  have ic : ds_c S i = c := by
    unfold ds_c
    rw [ec, nI_clamp (by omega)]
  have nc : ¬ ds_ct S i := by
    unfold ds_ct ds_br ds_jp
    rw [k]
    decide
  refine dx_st5 hP h.1 (by omega) (p0.trans k) (p1.trans ea) (p2.trans eb) (p3.trans ec) (by omega) (by omega) (by omega) (fun f => q 0 D jm pl op el _ (Or.inl rfl) (fun _ => dp_nn hi h nc (fun y => ?_))) (fun _ => q 3 D jm pl op el _ (Or.inr ⟨3, by omega, by omega, rfl⟩) (fun z => absurd z (by decide)))
  have g := dp_r3 hP (dp_sa hp (by rw [k]; decide) ia f y)
  exact ⟨g.1, fun _ => by rw [ib]; exact ⟨hb, g.2.1⟩, fun _ => by rw [ic]; exact ⟨hc, g.2.2⟩⟩
theorem dp_g6 {post : Int32 → St2 → Prop} {P L p i D : Nat} {S : Nat → Int32} (hP : P ≤ 8) (hp : p < 32) (hL : L ≤ 64) (hi : i < L) (hT : dp_T L st S) (h : dp_IV P L p S aA po i D op el jm pl) (q : ∀ (r : Int32) (D' : Nat) (jm' pl' op' el' so' : Nat → Int32), (r = 0 ∨ ∃ c, 1 ≤ c ∧ c ≤ 4 ∧ r = nI c) → (r = 0 → dp_IV P L p S aA po (i + 1) D' op' el' jm' pl') → post r (nI P, xC, 0, nI L, nI D', xQ, xS, xK, dA, aA, po, st, jm', pl', op', el', so', ip, va, ov, oc)) (k : S (i * 4) = 6) (va' : dl_v (S (i * 4 + 1))) (vb' : dl_v (S (i * 4 + 2))) (vc' : dl_v (S (i * 4 + 3))) : wpX_statementError post (nI P, xC, 0, nI L, nI D, xQ, xS, xK, dA, aA, po, st, jm, pl, op, el, so, ip, va, ov, oc) (nI i) := by
  have p0 := hT.1 (i * 4) (by omega)
  have p1 := hT.1 (i * 4 + 1) (by omega)
  have p2 := hT.1 (i * 4 + 2) (by omega)
  have p3 := hT.1 (i * 4 + 3) (by omega)
  obtain ⟨t, ht, ea⟩ := va'
  have ia : ds_a S i = t := by
    unfold ds_a
    rw [ea, nI_clamp (by omega)]
  obtain ⟨b, hb, eb⟩ := vb'
  have ib : ds_b S i = b := by
    unfold ds_b
    rw [eb, nI_clamp (by omega)]
  obtain ⟨c, hc, ec⟩ := vc'
  have ic : ds_c S i = c := by
    unfold ds_c
    rw [ec, nI_clamp (by omega)]
  have nc : ¬ ds_ct S i := by
    unfold ds_ct ds_br ds_jp
    rw [k]
    decide
  refine dx_st6 hP h.1 (by omega) (p0.trans k) (p1.trans ea) (p2.trans eb) (p3.trans ec) (by omega) (by omega) (by omega) (fun f => q 0 D jm pl op el _ (Or.inl rfl) (fun _ => dp_nn hi h nc (fun y => ?_))) (fun _ => q 3 D jm pl op el _ (Or.inr ⟨3, by omega, by omega, rfl⟩) (fun z => absurd z (by decide)))
  have g := dp_r3 hP (dp_sa hp (by rw [k]; decide) ia f y)
  exact ⟨g.1, fun _ => by rw [ib]; exact ⟨hb, g.2.1⟩, fun _ => by rw [ic]; exact ⟨hc, g.2.2⟩⟩
theorem dp_g7 {post : Int32 → St2 → Prop} {P L p i D : Nat} {S : Nat → Int32} (hP : P ≤ 8) (hp : p < 32) (hL : L ≤ 64) (hi : i < L) (hT : dp_T L st S) (h : dp_IV P L p S aA po i D op el jm pl) (q : ∀ (r : Int32) (D' : Nat) (jm' pl' op' el' so' : Nat → Int32), (r = 0 ∨ ∃ c, 1 ≤ c ∧ c ≤ 4 ∧ r = nI c) → (r = 0 → dp_IV P L p S aA po (i + 1) D' op' el' jm' pl') → post r (nI P, xC, 0, nI L, nI D', xQ, xS, xK, dA, aA, po, st, jm', pl', op', el', so', ip, va, ov, oc)) (k : S (i * 4) = 7) (va' : dl_v (S (i * 4 + 1))) (vb' : dl_v (S (i * 4 + 2))) (vc' : dl_v (S (i * 4 + 3))) : wpX_statementError post (nI P, xC, 0, nI L, nI D, xQ, xS, xK, dA, aA, po, st, jm, pl, op, el, so, ip, va, ov, oc) (nI i) := by
  have p0 := hT.1 (i * 4) (by omega)
  have p1 := hT.1 (i * 4 + 1) (by omega)
  have p2 := hT.1 (i * 4 + 2) (by omega)
  have p3 := hT.1 (i * 4 + 3) (by omega)
  obtain ⟨t, ht, ea⟩ := va'
  have ia : ds_a S i = t := by
    unfold ds_a
    rw [ea, nI_clamp (by omega)]
  obtain ⟨b, hb, eb⟩ := vb'
  have ib : ds_b S i = b := by
    unfold ds_b
    rw [eb, nI_clamp (by omega)]
  obtain ⟨c, hc, ec⟩ := vc'
  have ic : ds_c S i = c := by
    unfold ds_c
    rw [ec, nI_clamp (by omega)]
  have nc : ¬ ds_ct S i := by
    unfold ds_ct ds_br ds_jp
    rw [k]
    decide
  refine dx_st7 hP h.1 (by omega) (p0.trans k) (p1.trans ea) (p2.trans eb) (p3.trans ec) (by omega) (by omega) (by omega) (fun f => q 0 D jm pl op el _ (Or.inl rfl) (fun _ => dp_nn hi h nc (fun y => ?_))) (fun _ => q 3 D jm pl op el _ (Or.inr ⟨3, by omega, by omega, rfl⟩) (fun z => absurd z (by decide)))
  have g := dp_r3 hP (dp_sa hp (by rw [k]; decide) ia f y)
  exact ⟨g.1, fun _ => by rw [ib]; exact ⟨hb, g.2.1⟩, fun _ => by rw [ic]; exact ⟨hc, g.2.2⟩⟩
theorem dp_g13 {post : Int32 → St2 → Prop} {P L p i D : Nat} {S : Nat → Int32} (hP : P ≤ 8) (hp : p < 32) (hL : L ≤ 64) (hi : i < L) (hT : dp_T L st S) (h : dp_IV P L p S aA po i D op el jm pl) (q : ∀ (r : Int32) (D' : Nat) (jm' pl' op' el' so' : Nat → Int32), (r = 0 ∨ ∃ c, 1 ≤ c ∧ c ≤ 4 ∧ r = nI c) → (r = 0 → dp_IV P L p S aA po (i + 1) D' op' el' jm' pl') → post r (nI P, xC, 0, nI L, nI D', xQ, xS, xK, dA, aA, po, st, jm', pl', op', el', so', ip, va, ov, oc)) (k : S (i * 4) = 13) (va' : dl_v (S (i * 4 + 1))) (vb' : dl_v (S (i * 4 + 2))) : wpX_statementError post (nI P, xC, 0, nI L, nI D, xQ, xS, xK, dA, aA, po, st, jm, pl, op, el, so, ip, va, ov, oc) (nI i) := by
  have p0 := hT.1 (i * 4) (by omega)
  have p1 := hT.1 (i * 4 + 1) (by omega)
  have p2 := hT.1 (i * 4 + 2) (by omega)
  have p3 := hT.1 (i * 4 + 3) (by omega)
  obtain ⟨t, ht, ea⟩ := va'
  have ia : ds_a S i = t := by
    unfold ds_a
    rw [ea, nI_clamp (by omega)]
  obtain ⟨b, hb, eb⟩ := vb'
  have ib : ds_b S i = b := by
    unfold ds_b
    rw [eb, nI_clamp (by omega)]
  have nc : ¬ ds_ct S i := by
    unfold ds_ct ds_br ds_jp
    rw [k]
    decide
  refine dx_st13 hP h.1 (by omega) (p0.trans k) (p1.trans ea) (p2.trans eb) (by omega) (by omega) (fun _ => q 3 D jm pl op el _ (Or.inr ⟨3, by omega, by omega, rfl⟩) (fun z => absurd z (by decide))) (fun _ _ => q 4 D jm pl op el _ (Or.inr ⟨4, by omega, by omega, rfl⟩) (fun z => absurd z (by decide))) (fun f g => q 0 D jm pl op el _ (Or.inl rfl) (fun _ => dp_nn hi h nc (fun y => ?_)))
  have k12 : ¬ S (i * 4) = 12 := by
    rw [k]
    decide
  exact ⟨dp_r1 hP (dp_sa hp k12 ia f y), fun _ => by rw [ib]; exact ⟨hb, dp_rt hP (dp_sa hp k12 ia g y)⟩, fun z => absurd z (by rw [k]; decide)⟩
theorem dp_g8 {post : Int32 → St2 → Prop} {P L p i D : Nat} {S : Nat → Int32} (hP : P ≤ 8) (hp : p < 32) (hL : L ≤ 64) (hi : i < L) (hT : dp_T L st S) (h : dp_IV P L p S aA po i D op el jm pl) (q : ∀ (r : Int32) (D' : Nat) (jm' pl' op' el' so' : Nat → Int32), (r = 0 ∨ ∃ c, 1 ≤ c ∧ c ≤ 4 ∧ r = nI c) → (r = 0 → dp_IV P L p S aA po (i + 1) D' op' el' jm' pl') → post r (nI P, xC, 0, nI L, nI D', xQ, xS, xK, dA, aA, po, st, jm', pl', op', el', so', ip, va, ov, oc)) (k : S (i * 4) = 8) (va' : dl_v (S (i * 4 + 1))) : wpX_statementError post (nI P, xC, 0, nI L, nI D, xQ, xS, xK, dA, aA, po, st, jm, pl, op, el, so, ip, va, ov, oc) (nI i) := by
  have p0 := hT.1 (i * 4) (by omega)
  have p1 := hT.1 (i * 4 + 1) (by omega)
  have p2 := hT.1 (i * 4 + 2) (by omega)
  have p3 := hT.1 (i * 4 + 3) (by omega)
  obtain ⟨t, ht, ea⟩ := va'
  have ia : ds_a S i = t := by
    unfold ds_a
    rw [ea, nI_clamp (by omega)]
  have kb : ds_br (S (i * 4)) := Or.inl k
  rcases Nat.lt_or_ge D 8 with hD | hD
  · exact dx_st8 hD (by omega) (p0.trans k) (p1.trans ea) (by omega) (q 0 (D + 1) jm _ _ _ _ (Or.inl rfl) (fun _ => ⟨by omega, ds_N_o (by omega) h.2.1 kb, dl_K_o hi h.2.2.1 kb, ds_PL_o hP (by omega) ht ia h.2.2.2⟩))
  · have e : D = 8 := by
      have := h.1
      omega
    subst e
    exact dx_st88 (by omega) (p0.trans k) (p1.trans ea) (q 2 8 jm pl op el _ (Or.inr ⟨2, by omega, by omega, rfl⟩) (fun z => absurd z (by decide)))
theorem dp_g11 {post : Int32 → St2 → Prop} {P L p i D : Nat} {S : Nat → Int32} (hP : P ≤ 8) (hp : p < 32) (hL : L ≤ 64) (hi : i < L) (hT : dp_T L st S) (h : dp_IV P L p S aA po i D op el jm pl) (q : ∀ (r : Int32) (D' : Nat) (jm' pl' op' el' so' : Nat → Int32), (r = 0 ∨ ∃ c, 1 ≤ c ∧ c ≤ 4 ∧ r = nI c) → (r = 0 → dp_IV P L p S aA po (i + 1) D' op' el' jm' pl') → post r (nI P, xC, 0, nI L, nI D', xQ, xS, xK, dA, aA, po, st, jm', pl', op', el', so', ip, va, ov, oc)) (k : S (i * 4) = 11) (va' : dl_v (S (i * 4 + 1))) : wpX_statementError post (nI P, xC, 0, nI L, nI D, xQ, xS, xK, dA, aA, po, st, jm, pl, op, el, so, ip, va, ov, oc) (nI i) := by
  have p0 := hT.1 (i * 4) (by omega)
  have p1 := hT.1 (i * 4 + 1) (by omega)
  have p2 := hT.1 (i * 4 + 2) (by omega)
  have p3 := hT.1 (i * 4 + 3) (by omega)
  obtain ⟨t, ht, ea⟩ := va'
  have ia : ds_a S i = t := by
    unfold ds_a
    rw [ea, nI_clamp (by omega)]
  have kb : ds_br (S (i * 4)) := Or.inr k
  rcases Nat.lt_or_ge D 8 with hD | hD
  · exact dx_st11 hD (by omega) (p0.trans k) (p1.trans ea) (by omega) (q 0 (D + 1) jm _ _ _ _ (Or.inl rfl) (fun _ => ⟨by omega, ds_N_o (by omega) h.2.1 kb, dl_K_o hi h.2.2.1 kb, ds_PL_o hP (by omega) ht ia h.2.2.2⟩))
  · have e : D = 8 := by
      have := h.1
      omega
    subst e
    exact dx_st118 (by omega) (p0.trans k) (p1.trans ea) (q 2 8 jm pl op el _ (Or.inr ⟨2, by omega, by omega, rfl⟩) (fun z => absurd z (by decide)))
theorem dp_g9 {post : Int32 → St2 → Prop} {P L p i D : Nat} {S : Nat → Int32} (hP : P ≤ 8) (hp : p < 32) (hL : L ≤ 64) (hi : i < L) (hT : dp_T L st S) (h : dp_IV P L p S aA po i D op el jm pl) (q : ∀ (r : Int32) (D' : Nat) (jm' pl' op' el' so' : Nat → Int32), (r = 0 ∨ ∃ c, 1 ≤ c ∧ c ≤ 4 ∧ r = nI c) → (r = 0 → dp_IV P L p S aA po (i + 1) D' op' el' jm' pl') → post r (nI P, xC, 0, nI L, nI D', xQ, xS, xK, dA, aA, po, st, jm', pl', op', el', so', ip, va, ov, oc)) (k : S (i * 4) = 9) : wpX_statementError post (nI P, xC, 0, nI L, nI D, xQ, xS, xK, dA, aA, po, st, jm, pl, op, el, so, ip, va, ov, oc) (nI i) := by
  have p0 := hT.1 (i * 4) (by omega)
  have p1 := hT.1 (i * 4 + 1) (by omega)
  have p2 := hT.1 (i * 4 + 2) (by omega)
  have p3 := hT.1 (i * 4 + 3) (by omega)
  cases D with
  | zero => exact dx_st90 (by omega) (p0.trans k) (q 1 0 jm pl op el _ (Or.inr ⟨1, by omega, by omega, rfl⟩) (fun z => absurd z (by decide)))
  | succ D =>
    obtain ⟨h1, h2, h3, h4⟩ := h
    obtain ⟨o, o1, o2, o3, _⟩ := h3.1 D (by omega)
    have so' := hT.1 (o * 4) (by omega)
    refine dx_st9 (by omega) o2 (by omega) (by omega) (p0.trans k) (fun _ => q 1 (D + 1) jm pl op el _ (Or.inr ⟨1, by omega, by omega, rfl⟩) (fun z => absurd z (by decide))) (fun f1 f2 => q 0 (D + 1) jm pl op _ _ (Or.inl rfl) (fun _ => ⟨h1, ds_N_e (by omega) h2 k f2, dl_K_e hi h3 k (fun o' w1 w2 w3 => ?_) f2 (by omega), h4⟩))
    have e := (nI_eq (show o' < 2 ^ 31 by omega) (show o < 2 ^ 31 by omega)).mp (w2.symm.trans o2)
    subst e
    exact f1 (so'.trans w3)
theorem dp_end {P L p i D : Nat} {S jm' : Nat → Int32} (hL : L ≤ 64) (hi : i < L) (h : dp_IV P L p S aA po i (D + 1) op el jm pl) (k : S (i * 4) = 10) (h1 : jm' i = dl_tg (fun i => S (i * 4)) L i) (h2 : ∀ q, q < i → op D = nI q → jm' q = dl_tg (fun i => S (i * 4)) L q) (h3 : ∀ q, q < i → el D = nI q → jm' q = dl_tg (fun i => S (i * 4)) L q) (h4 : ∀ q, q < i → ¬ op D = nI q → ¬ el D = nI q → jm' q = jm q) : dp_IV P L p S aA po (i + 1) D op el jm' pl := by
  obtain ⟨g1, g2, g3, g4⟩ := h
  obtain ⟨o, o1, o2, o3, o4, o5⟩ := dl_K_top hi (by omega) g3 k
  have on : ds_on op D = o := by
    unfold ds_on
    rw [o2, nI_clamp (by omega)]
  refine ⟨by omega, ds_N_x (by omega) g2 k ?_ ?_ ?_ ?_, dl_K_x hi g3 k h1 h2 h3 h4, ds_PL_dn g4⟩
  · rw [on, h1, o4]
    by_cases z : (fun i => S (i * 4)) o = 11
    · rw [if_pos z]
      exact ⟨o, rfl, by omega, by omega⟩
    · rw [if_neg z]
      exact ⟨i + 1, rfl, by omega, by omega⟩
  · rw [on, h2 o o1 o2]
    rcases o5 with ⟨_, e⟩ | ⟨m, m1, mm, _, _, m5, _⟩
    · rw [e]
      exact ⟨i + 1, rfl, by omega, by omega⟩
    · rw [m5]
      refine ⟨m + 1, rfl, ?_, by omega⟩
      rcases g2.2.2.1 D (by omega) with z | ⟨m', z1, z2, z3, _⟩
      · exact absurd (z.symm.trans mm) (ds_m1 (by omega))
      · have e := (nI_eq (show m < 2 ^ 31 by omega) (show m' < 2 ^ 31 by omega)).mp (mm.symm.trans z1)
        omega
  · intro m' hm' w
    rw [on, h3 m' hm' w]
    rcases o5 with ⟨e, _⟩ | ⟨m, m1, m2, _, _, _, m6⟩
    · exact absurd (e.symm.trans w) (ds_m1 (by omega))
    · have e := (nI_eq (show m' < 2 ^ 31 by omega) (show m < 2 ^ 31 by omega)).mp (w.symm.trans m2)
      subst e
      rw [m6]
      exact ⟨i + 1, rfl, by omega, by omega⟩
  · intro j hj w1 w2
    rw [on] at w1
    exact h4 j hj (fun z => w1 ((nI_eq (by omega) (by omega)).mp (o2.symm.trans z))) w2
theorem dp_g10 {post : Int32 → St2 → Prop} {P L p i D : Nat} {S : Nat → Int32} (hP : P ≤ 8) (hp : p < 32) (hL : L ≤ 64) (hi : i < L) (hT : dp_T L st S) (h : dp_IV P L p S aA po i D op el jm pl) (q : ∀ (r : Int32) (D' : Nat) (jm' pl' op' el' so' : Nat → Int32), (r = 0 ∨ ∃ c, 1 ≤ c ∧ c ≤ 4 ∧ r = nI c) → (r = 0 → dp_IV P L p S aA po (i + 1) D' op' el' jm' pl') → post r (nI P, xC, 0, nI L, nI D', xQ, xS, xK, dA, aA, po, st, jm', pl', op', el', so', ip, va, ov, oc)) (k : S (i * 4) = 10) : wpX_statementError post (nI P, xC, 0, nI L, nI D, xQ, xS, xK, dA, aA, po, st, jm, pl, op, el, so, ip, va, ov, oc) (nI i) := by
  have p0 := hT.1 (i * 4) (by omega)
  have p1 := hT.1 (i * 4 + 1) (by omega)
  have p2 := hT.1 (i * 4 + 2) (by omega)
  have p3 := hT.1 (i * 4 + 3) (by omega)
  cases D with
  | zero => exact dx_st100 (by omega) (p0.trans k) (q 1 0 jm pl op el _ (Or.inr ⟨1, by omega, by omega, rfl⟩) (fun z => absurd z (by decide)))
  | succ D =>
    have hh := h
    obtain ⟨h1, _, h6, _⟩ := h
    obtain ⟨o, o1, o2, o3, o4, o5⟩ := dl_K_top hi (by omega) h6 k
    have hso := hT.1 (o * 4) (by omega)
    have o4' : dl_tg (fun i => S (i * 4)) L i = if st (o * 4) = 11 then nI o else nI (i + 1) := by
      rw [hso]
      exact o4
    have no : ∀ q, q < i → op D = nI q → q = o := fun q hq w => (nI_eq (by omega) (by omega)).mp (w.symm.trans o2)
    have io : ¬ i = o := by omega
    rcases o5 with ⟨e1, e2⟩ | ⟨m, m1, m2, m3, m4, m5, m6⟩
    · refine dx_st10 (by omega) o2 (by omega) (by omega) (p0.trans k) (fun _ => q 0 D _ pl op el _ (Or.inl rfl) (fun _ => dp_end hL hi hh k ?_ ?_ ?_ ?_)) (fun m w1 w2 => absurd (e1.symm.trans w2) (ds_m1 (by omega))) (Or.inl e1)
      · unfold dl_j1
        rw [pk_us]
        exact o4'.symm
      · intro q hq w
        have e := no q hq w
        subst e
        unfold dl_j1
        rw [pk_un (by omega), pk_us]
        exact e2.symm
      · intro q hq w
        exact absurd (e1.symm.trans w) (ds_m1 (by omega))
      · intro q hq w1 w2
        unfold dl_j1
        rw [pk_un (by omega), pk_un (fun z => w1 (by rw [z]; exact o2))]
    · have nm : ∀ q, q < i → el D = nI q → q = m := fun q hq w => (nI_eq (by omega) (by omega)).mp (w.symm.trans m2)
      have mo : ¬ m = o := fun z => by
        rw [z] at m4
        exact absurd (m3.symm.trans m4) (by decide)
      refine dx_st10 (by omega) o2 (by omega) (by omega) (p0.trans k) (fun w => absurd (w.symm.trans m2) (ds_m1 (by omega))) (fun m' w1 w2 => q 0 D _ pl op el _ (Or.inl rfl) (fun _ => dp_end hL hi hh k ?_ ?_ ?_ ?_)) (Or.inr ⟨m, by omega, m2⟩)
      · unfold dl_j2 dl_j1
        have e := (nI_eq (show m' < 2 ^ 31 by omega) (show m < 2 ^ 31 by omega)).mp (w2.symm.trans m2)
        rw [pk_un (by omega), pk_un (by omega), pk_us]
        exact o4'.symm
      · intro q hq w
        have e := no q hq w
        subst e
        have e' := (nI_eq (show m' < 2 ^ 31 by omega) (show m < 2 ^ 31 by omega)).mp (w2.symm.trans m2)
        subst e'
        unfold dl_j2
        rw [pk_un (fun z => mo z.symm), pk_us]
        exact m5.symm
      · intro q hq w
        have e := nm q hq w
        subst e
        have e' := (nI_eq (show m' < 2 ^ 31 by omega) (show q < 2 ^ 31 by omega)).mp (w2.symm.trans m2)
        subst e'
        unfold dl_j2
        rw [pk_us]
        exact m6.symm
      · intro q hq w1' w2'
        unfold dl_j2 dl_j1
        rw [pk_un (fun z => w2' (by rw [z]; exact w2)), pk_un (fun z => w1' (by rw [z]; exact o2)), pk_un (by omega), pk_un (fun z => w1' (by rw [z]; exact o2))]
theorem dp_g {post : Int32 → St2 → Prop} {P L p i D : Nat} {S : Nat → Int32} (hP : P ≤ 8) (hp : p < 32) (hL : L ≤ 64) (hi : i < L) (hT : dp_T L st S) (h : dp_IV P L p S aA po i D op el jm pl) (q : ∀ (r : Int32) (D' : Nat) (jm' pl' op' el' so' : Nat → Int32), (r = 0 ∨ ∃ c, 1 ≤ c ∧ c ≤ 4 ∧ r = nI c) → (r = 0 → dp_IV P L p S aA po (i + 1) D' op' el' jm' pl') → post r (nI P, xC, 0, nI L, nI D', xQ, xS, xK, dA, aA, po, st, jm', pl', op', el', so', ip, va, ov, oc)) : wpX_statementError post (nI P, xC, 0, nI L, nI D, xQ, xS, xK, dA, aA, po, st, jm, pl, op, el, so, ip, va, ov, oc) (nI i) := by
  rcases hT.2 i hi with ⟨k, h1, _⟩ | ⟨k, h1, h2, _⟩ | ⟨k, h1, h2, _⟩ | ⟨k, h1, h2, h3⟩ | ⟨k, h1, _⟩ | ⟨k, _⟩ | ⟨k, h1, h2, _⟩
  · exact dp_g1 hP hp hL hi hT h q k h1
  · exact dp_g2 hP hp hL hi hT h q k h1 h2
  · exact dp_g13 hP hp hL hi hT h q k h1 h2
  · rcases k with k | k | k | k | k
    · exact dp_g3 hP hp hL hi hT h q k h1 h2 h3
    · exact dp_g4 hP hp hL hi hT h q k h1 h2 h3
    · exact dp_g5 hP hp hL hi hT h q k h1 h2 h3
    · exact dp_g6 hP hp hL hi hT h q k h1 h2 h3
    · exact dp_g7 hP hp hL hi hT h q k h1 h2 h3
  · rcases k with k | k
    · exact dp_g8 hP hp hL hi hT h q k h1
    · exact dp_g11 hP hp hL hi hT h q k h1
  · rcases k with k | k
    · exact dp_g9 hP hp hL hi hT h q k
    · exact dp_g10 hP hp hL hi hT h q k
  · exact dp_g12 hP hp hL hi hT h q k h1 h2
theorem dl_m256 (c i : Nat) : nI c * 256 + nI i = nI (c * 256 + i) := by
  rw [← nI_add, ← pk_mul]
  rfl
theorem dl_1280 (n : Nat) : (1280 : Int32) + nI n = nI (1280 + n) := nI_add 1280 n
theorem dx_first {post : Int32 → St2 → Prop} (h : ∃ n, wX_firstError_28 post n 0 xP xC xA xL 0 xQ xS xK dA aA po st jm (dl_row (fun _ => -1) pl 8) op el so ip va ov oc) : wpX_firstError post (xP, xC, xA, xL, xO, xQ, xS, xK, dA, aA, po, st, jm, pl, op, el, so, ip, va, ov, oc) := by
  unfold wpX_firstError
  refine loop_0 (fun n i a => wX_firstError_7 post xP xC xA xL 0 xQ xS xK n (nI i) dA aA po st jm a op el so ip va ov oc) (fun i a => a = dl_row (fun _ => -1) pl i) 8 pl (dl_row_0 _ _).symm ?_ ?_
  · intro n a ha
    subst ha
    exact br_t (nI_le (a := 8) (b := 8) (by omega) (by omega)) h
  · intro n i a hi ha ih
    subst ha
    refine br_f (nI_ge (b := 8) hi (by omega)) ?_
    rw [dl_c (show i < 2 ^ 31 by omega)]
    exact ⟨vp_in_nI (by omega) (by omega), nm_e (nm_r (nI_1 i) (ih _ (dl_row_s rfl)))⟩
/-- the check's loop -/
theorem dp_loop {post : Int32 → St2 → Prop} {P L p : Nat} {S : Nat → Int32} (hP : P ≤ 8) (hp : p < 32) (hL : L ≤ 64) (hT : dp_T L st S) (q : ∀ (r : Int32) (D' : Nat) (jm' pl' op' el' so' : Nat → Int32), (r = 0 → dp_IV P L p S aA po L 0 op' el' jm' pl') → post r (nI P, xC, 0, nI L, nI D', xQ, xS, xK, dA, aA, po, st, jm', pl', op', el', so', ip, va, ov, oc)) : ∀ (d i D : Nat) (jm pl op el so : Nat → Int32), i + d = L → dp_IV P L p S aA po i D op el jm pl → wX_firstError_28 post (d + 1) (nI i) (nI P) xC 0 (nI L) (nI D) xQ xS xK dA aA po st jm pl op el so ip va ov oc := by
  intro d
  induction d with
  | zero =>
    intro i D jm pl op el so hd h
    have e : i = L := by omega
    subst e
    have le : nI i ≤ nI i := nI_le (Nat.le_refl _) (by omega)
    cases D with
    | zero => exact br_t le (br_t nI_0 (q 0 0 jm pl op el so (fun _ => h)))
    | succ D =>
      have hD := h.1
      exact br_t le (br_f (nI_ne0 (by omega) (by omega)) (q _ (D + 1) jm pl op el so (fun z => absurd z (by rw [dl_1280]; exact nI_ne0 (by omega) (by omega)))))
  | succ d ih =>
    intro i D jm pl op el so hd h
    have hi : i < L := by omega
    have nle : ¬ nI L ≤ nI i := nI_ge hi (by omega)
    refine br_f nle (dp_g hP hp hL hi hT h (fun r D' jm' pl' op' el' so' hr hiv => ?_))
    rcases hr with hr | ⟨c, c1, c4, hr⟩
    · exact br_t hr (nm_r (nI_1 i) (ih (i + 1) D' jm' pl' op' el' so' (by omega) (hiv hr)))
    · have nz : ¬ r = 0 := by
        rw [hr]
        exact nI_ne0 (by omega) (by omega)
      exact br_f nz (q _ D' jm' pl' op' el' so' (fun z => absurd z (by rw [hr, dl_m256]; exact nI_ne0 (by omega) (by omega))))
/-- what an object is when its check passed: jumps, labels -/
def dp_C (P L p : Nat) (S : Nat → Int32) (lv lc : Nat → Prop) (u : St2) : Prop := match u with
  | (xP, xC, xA, xL, xO, xQ, xS, xK, dA, aA, po, st, jm, pl, op, el, so, ip, va, ov, oc) => (¬ xS = 0) ∧ (∀ q, q < L → ds_ct S q → jm q = dl_tg (fun i => S (i * 4)) L q) ∧ lv = ds_lv P aA po p ∧ lc = ds_lc P aA po p ∧ ds_F S (fun q => dl_tg (fun i => S (i * 4)) L q) L lv lc
theorem ds_F_c {S jm jm' : Nat → Int32} {L : Nat} {lv lc : Nat → Prop} (h : ds_F S jm L lv lc) (e : ∀ q, q < L → ds_ct S q → jm q = jm' q) : ds_F S jm' L lv lc := by
  refine ⟨h.1, fun q hq hb => ?_⟩
  obtain ⟨x, x1, x2, x3, x4⟩ := h.2 q hq hb
  refine ⟨x, x1, x2, fun i i1 i2 hc => ?_, x4⟩
  rw [← e i (by omega) hc]
  exact x3 i i1 i2 hc
theorem dp_check {post : Int32 → St2 → Prop} {P L p : Nat} {S : Nat → Int32} {u : St2} (hp : p < 32) (h : dp_X P L S u) (q : ∀ r u', dp_X P L S u' → (r = 0 → ∃ lv lc, dp_C P L p S lv lc u') → post r u') : wpX_check post u := by
  obtain ⟨xP, xC, xA, xL, xO, xQ, xS, xK, dA, aA, po, st, jm, pl, op, el, so, ip, va, ov, oc⟩ := u
  obtain ⟨rfl, rfl, rfl, rfl, rfl, ⟨P2, P8⟩, hL, hT⟩ := h
  unfold wpX_check
  refine dx_reset (dx_first ⟨L + 1, ?_⟩)
  have iv0 : dp_IV P L p S aA po 0 0 op el jm (dl_row (fun _ => -1) pl 8) := ⟨by omega, ds_N0 _ _ _ _ _ _, dl_K0 _ _ _ _ _, ds_PL_0 _ _ _ _ _ _ _⟩
  refine dp_loop P8 hp hL hT (fun r D' jm' pl' op' el' so' hr => ?_) L 0 0 jm (dl_row (fun _ => -1) pl 8) op el so (by omega) iv0
  refine br_c (fun z => q _ _ ⟨rfl, rfl, rfl, rfl, rfl, ⟨P2, P8⟩, hL, hT⟩ (fun _ => ?_)) (fun z => q _ _ ⟨rfl, rfl, rfl, rfl, rfl, ⟨P2, P8⟩, hL, hT⟩ (fun y => absurd y z))
  have iv := hr z
  have kf := dl_K_fin iv.2.2.1
  have je : ∀ q, q < L → ds_ct S q → jm' q = dl_tg (fun i => S (i * 4)) L q := fun q hq hc => kf q hq (dp_ct.mpr hc)
  exact ⟨ds_lv P aA po p, ds_lc P aA po p, by decide, je, rfl, rfl, ds_F_c (ds_N_fin (by omega) iv.2.1).1 je⟩
end
end
section
/-! p18: steps, runs, inputs, readers and channels of the component -/
section
variable {xP xC xA xL xO xQ xS xK : Int32} {dA aA po st jm pl op el so ip va ov oc : Nat → Int32}
def dp_Tg (S : Nat → Int32) (L : Nat) : Nat → Int32 := fun q => dl_tg (fun i => S (i * 4)) L q
theorem dp_Tg_r {S : Nat → Int32} {L q : Nat} (hq : q < L) (hL : L ≤ 64) : ∃ r, r ≤ L ∧ dp_Tg S L q = nI r := dl_tg_r (fun i => S (i * 4)) hq (by omega)
theorem dp_h1 {post : St2 → Prop} {L q : Nat} {S : Nat → Int32} (hL : L ≤ 64) (hq : q < L) (hT : dp_T L st S) (hj : ∀ q, q < L → ds_ct S q → jm q = dp_Tg S L q) (ho : ds_ok (q, va, ov, oc)) (z : ∀ (q' : Nat) (va' ov' oc' : Nat → Int32), ds_step S (dp_Tg S L) (q, va, ov, oc) = (q', va', ov', oc') → post (xP, xC, xA, nI L, xO, nI q', xS, xK, dA, aA, po, st, jm, pl, op, el, so, ip, va', ov', oc')) (k : S (q * 4) = 1) (va' : dl_v (S (q * 4 + 1))) : wpX_step post (xP, xC, xA, nI L, xO, nI q, xS, xK, dA, aA, po, st, jm, pl, op, el, so, ip, va, ov, oc) := by
  have p0 := hT.1 (q * 4) (by omega)
  have p1 := hT.1 (q * 4 + 1) (by omega)
  have p2 := hT.1 (q * 4 + 2) (by omega)
  have p3 := hT.1 (q * 4 + 3) (by omega)
  obtain ⟨v0, c0⟩ := dl_s0 (show q < 64 by omega)
  obtain ⟨v1, c1⟩ := dl_s1 (show q < 64 by omega)
  obtain ⟨v2, c2⟩ := dl_s2 (show q < 64 by omega)
  obtain ⟨v3, c3⟩ := dl_s3 (show q < 64 by omega)
  have vq : vp_in (nI q) 64 := vp_in_nI (by omega) (by omega)
  have cq := dl_c (show q < 2 ^ 31 by omega)
  obtain ⟨t, ht, ea⟩ := va'
  have ct := dl_c (show t < 2 ^ 31 by omega)
  have ia : ds_a S q = t := by
    unfold ds_a
    rw [ea, ct]
  have nb : ¬ ds_br (S (q * 4)) := by
    unfold ds_br
    rw [k]
    decide
  have nj : ¬ ds_jp (S (q * 4)) := by
    unfold ds_jp
    rw [k]
    decide
  have n12 : ¬ S (q * 4) = 12 := by
    rw [k]
    decide
  have ev : ds_val S va q = S (q * 4 + 2) := by
    unfold ds_val
    rw [if_pos k]
  have e : ds_step S (dp_Tg S L) (q, va, ov, oc) = (q + 1, upd va t (S (q * 4 + 2)), ov, oc) := by
    rw [ds_step_w nb nj n12]
    show (q + 1, upd va (ds_a S q) (ds_val S va q), ov, oc) = _
    rw [ia, ev]
  have zz := z _ _ _ _ e
  unfold wpX_step
  exact nm_r (dl_m4 q) ⟨v0, nm_r (e' := 1) (by rw [c0]; exact p0.trans k) ⟨v1, nm_r (e' := nI t) (by rw [c1]; exact p1.trans ea) ⟨v2, nm_e ⟨v3, nm_e (br_t (by decide) (br_f (by decide) (br_f (by decide) (br_t rfl ⟨vp_in_nI ht (by omega), nm_r (e' := upd va t (S (q * 4 + 2))) (by rw [ct, c2, p2]) (nm_r (nI_1 q) zz)⟩))))⟩⟩⟩⟩
theorem dp_h2 {post : St2 → Prop} {L q : Nat} {S : Nat → Int32} (hL : L ≤ 64) (hq : q < L) (hT : dp_T L st S) (hj : ∀ q, q < L → ds_ct S q → jm q = dp_Tg S L q) (ho : ds_ok (q, va, ov, oc)) (z : ∀ (q' : Nat) (va' ov' oc' : Nat → Int32), ds_step S (dp_Tg S L) (q, va, ov, oc) = (q', va', ov', oc') → post (xP, xC, xA, nI L, xO, nI q', xS, xK, dA, aA, po, st, jm, pl, op, el, so, ip, va', ov', oc')) (k : S (q * 4) = 2) (va' : dl_v (S (q * 4 + 1))) (vb' : dl_v (S (q * 4 + 2))) : wpX_step post (xP, xC, xA, nI L, xO, nI q, xS, xK, dA, aA, po, st, jm, pl, op, el, so, ip, va, ov, oc) := by
  have p0 := hT.1 (q * 4) (by omega)
  have p1 := hT.1 (q * 4 + 1) (by omega)
  have p2 := hT.1 (q * 4 + 2) (by omega)
  have p3 := hT.1 (q * 4 + 3) (by omega)
  obtain ⟨v0, c0⟩ := dl_s0 (show q < 64 by omega)
  obtain ⟨v1, c1⟩ := dl_s1 (show q < 64 by omega)
  obtain ⟨v2, c2⟩ := dl_s2 (show q < 64 by omega)
  obtain ⟨v3, c3⟩ := dl_s3 (show q < 64 by omega)
  have vq : vp_in (nI q) 64 := vp_in_nI (by omega) (by omega)
  have cq := dl_c (show q < 2 ^ 31 by omega)
  obtain ⟨t, ht, ea⟩ := va'
  have ct := dl_c (show t < 2 ^ 31 by omega)
  have ia : ds_a S q = t := by
    unfold ds_a
    rw [ea, ct]
  obtain ⟨b, hb, eb⟩ := vb'
  have cb := dl_c (show b < 2 ^ 31 by omega)
  have ib : ds_b S q = b := by
    unfold ds_b
    rw [eb, cb]
  have nb : ¬ ds_br (S (q * 4)) := by
    unfold ds_br
    rw [k]
    decide
  have nj : ¬ ds_jp (S (q * 4)) := by
    unfold ds_jp
    rw [k]
    decide
  have n12 : ¬ S (q * 4) = 12 := by
    rw [k]
    decide
  have ev : ds_val S va q = va b := by
    unfold ds_val
    rw [if_neg (by rw [k]; decide), if_neg (by rw [k]; decide), if_neg (by rw [k]; decide), if_neg (by rw [k]; decide), if_neg (by rw [k]; decide), if_neg (by rw [k]; decide), ib]
  have e : ds_step S (dp_Tg S L) (q, va, ov, oc) = (q + 1, upd va t (va b), ov, oc) := by
    rw [ds_step_w nb nj n12]
    show (q + 1, upd va (ds_a S q) (ds_val S va q), ov, oc) = _
    rw [ia, ev]
  have zz := z _ _ _ _ e
  unfold wpX_step
  exact nm_r (dl_m4 q) ⟨v0, nm_r (e' := 2) (by rw [c0]; exact p0.trans k) ⟨v1, nm_r (e' := nI t) (by rw [c1]; exact p1.trans ea) ⟨v2, nm_r (e' := nI b) (by rw [c2]; exact p2.trans eb) ⟨v3, nm_e (br_t (by decide) (br_f (by decide) (br_f (by decide) (br_f (by decide) (br_t rfl ⟨vp_in_nI hb (by omega), ⟨vp_in_nI ht (by omega), nm_r (e' := upd va t (va b)) (by rw [ct, cb]) (nm_r (nI_1 q) zz)⟩⟩)))))⟩⟩⟩⟩
theorem dp_h13 {post : St2 → Prop} {L q : Nat} {S : Nat → Int32} (hL : L ≤ 64) (hq : q < L) (hT : dp_T L st S) (hj : ∀ q, q < L → ds_ct S q → jm q = dp_Tg S L q) (ho : ds_ok (q, va, ov, oc)) (z : ∀ (q' : Nat) (va' ov' oc' : Nat → Int32), ds_step S (dp_Tg S L) (q, va, ov, oc) = (q', va', ov', oc') → post (xP, xC, xA, nI L, xO, nI q', xS, xK, dA, aA, po, st, jm, pl, op, el, so, ip, va', ov', oc')) (k : S (q * 4) = 13) (va' : dl_v (S (q * 4 + 1))) (vb' : dl_v (S (q * 4 + 2))) : wpX_step post (xP, xC, xA, nI L, xO, nI q, xS, xK, dA, aA, po, st, jm, pl, op, el, so, ip, va, ov, oc) := by
  have p0 := hT.1 (q * 4) (by omega)
  have p1 := hT.1 (q * 4 + 1) (by omega)
  have p2 := hT.1 (q * 4 + 2) (by omega)
  have p3 := hT.1 (q * 4 + 3) (by omega)
  obtain ⟨v0, c0⟩ := dl_s0 (show q < 64 by omega)
  obtain ⟨v1, c1⟩ := dl_s1 (show q < 64 by omega)
  obtain ⟨v2, c2⟩ := dl_s2 (show q < 64 by omega)
  obtain ⟨v3, c3⟩ := dl_s3 (show q < 64 by omega)
  have vq : vp_in (nI q) 64 := vp_in_nI (by omega) (by omega)
  have cq := dl_c (show q < 2 ^ 31 by omega)
  obtain ⟨t, ht, ea⟩ := va'
  have ct := dl_c (show t < 2 ^ 31 by omega)
  have ia : ds_a S q = t := by
    unfold ds_a
    rw [ea, ct]
  obtain ⟨b, hb, eb⟩ := vb'
  have cb := dl_c (show b < 2 ^ 31 by omega)
  have ib : ds_b S q = b := by
    unfold ds_b
    rw [eb, cb]
  have nb : ¬ ds_br (S (q * 4)) := by
    unfold ds_br
    rw [k]
    decide
  have nj : ¬ ds_jp (S (q * 4)) := by
    unfold ds_jp
    rw [k]
    decide
  have n12 : ¬ S (q * 4) = 12 := by
    rw [k]
    decide
  have ev : ds_val S va q = va b := by
    unfold ds_val
    rw [if_neg (by rw [k]; decide), if_neg (by rw [k]; decide), if_neg (by rw [k]; decide), if_neg (by rw [k]; decide), if_neg (by rw [k]; decide), if_neg (by rw [k]; decide), ib]
  have e : ds_step S (dp_Tg S L) (q, va, ov, oc) = (q + 1, upd va t (va b), ov, oc) := by
    rw [ds_step_w nb nj n12]
    show (q + 1, upd va (ds_a S q) (ds_val S va q), ov, oc) = _
    rw [ia, ev]
  have zz := z _ _ _ _ e
  unfold wpX_step
  exact nm_r (dl_m4 q) ⟨v0, nm_r (e' := 13) (by rw [c0]; exact p0.trans k) ⟨v1, nm_r (e' := nI t) (by rw [c1]; exact p1.trans ea) ⟨v2, nm_r (e' := nI b) (by rw [c2]; exact p2.trans eb) ⟨v3, nm_e (br_f (by decide) (br_t (by decide) (br_f (by decide) (br_t (by decide) ⟨vp_in_nI hb (by omega), ⟨vp_in_nI ht (by omega), nm_r (e' := upd va t (va b)) (by rw [ct, cb]) (nm_r (nI_1 q) zz)⟩⟩))))⟩⟩⟩⟩
theorem dp_h3 {post : St2 → Prop} {L q : Nat} {S : Nat → Int32} (hL : L ≤ 64) (hq : q < L) (hT : dp_T L st S) (hj : ∀ q, q < L → ds_ct S q → jm q = dp_Tg S L q) (ho : ds_ok (q, va, ov, oc)) (z : ∀ (q' : Nat) (va' ov' oc' : Nat → Int32), ds_step S (dp_Tg S L) (q, va, ov, oc) = (q', va', ov', oc') → post (xP, xC, xA, nI L, xO, nI q', xS, xK, dA, aA, po, st, jm, pl, op, el, so, ip, va', ov', oc')) (k : S (q * 4) = 3) (va' : dl_v (S (q * 4 + 1))) (vb' : dl_v (S (q * 4 + 2))) (vc' : dl_v (S (q * 4 + 3))) : wpX_step post (xP, xC, xA, nI L, xO, nI q, xS, xK, dA, aA, po, st, jm, pl, op, el, so, ip, va, ov, oc) := by
  have p0 := hT.1 (q * 4) (by omega)
  have p1 := hT.1 (q * 4 + 1) (by omega)
  have p2 := hT.1 (q * 4 + 2) (by omega)
  have p3 := hT.1 (q * 4 + 3) (by omega)
  obtain ⟨v0, c0⟩ := dl_s0 (show q < 64 by omega)
  obtain ⟨v1, c1⟩ := dl_s1 (show q < 64 by omega)
  obtain ⟨v2, c2⟩ := dl_s2 (show q < 64 by omega)
  obtain ⟨v3, c3⟩ := dl_s3 (show q < 64 by omega)
  have vq : vp_in (nI q) 64 := vp_in_nI (by omega) (by omega)
  have cq := dl_c (show q < 2 ^ 31 by omega)
  obtain ⟨t, ht, ea⟩ := va'
  have ct := dl_c (show t < 2 ^ 31 by omega)
  have ia : ds_a S q = t := by
    unfold ds_a
    rw [ea, ct]
  obtain ⟨b, hb, eb⟩ := vb'
  have cb := dl_c (show b < 2 ^ 31 by omega)
  have ib : ds_b S q = b := by
    unfold ds_b
    rw [eb, cb]
  obtain ⟨c, hc2, ec⟩ := vc'
  have cc := dl_c (show c < 2 ^ 31 by omega)
  have ic : ds_c S q = c := by
    unfold ds_c
    rw [ec, cc]
  have nb : ¬ ds_br (S (q * 4)) := by
    unfold ds_br
    rw [k]
    decide
  have nj : ¬ ds_jp (S (q * 4)) := by
    unfold ds_jp
    rw [k]
    decide
  have n12 : ¬ S (q * 4) = 12 := by
    rw [k]
    decide
  have ev : ds_val S va q = va b + va c := by
    unfold ds_val
    rw [if_neg (by rw [k]; decide), if_pos k, ib, ic]
  have e : ds_step S (dp_Tg S L) (q, va, ov, oc) = (q + 1, upd va t (va b + va c), ov, oc) := by
    rw [ds_step_w nb nj n12]
    show (q + 1, upd va (ds_a S q) (ds_val S va q), ov, oc) = _
    rw [ia, ev]
  have zz := z _ _ _ _ e
  unfold wpX_step
  exact nm_r (dl_m4 q) ⟨v0, nm_r (e' := 3) (by rw [c0]; exact p0.trans k) ⟨v1, nm_r (e' := nI t) (by rw [c1]; exact p1.trans ea) ⟨v2, nm_r (e' := nI b) (by rw [c2]; exact p2.trans eb) ⟨v3, nm_r (e' := nI c) (by rw [c3]; exact p3.trans ec) (br_t (by decide) (br_f (by decide) (br_f (by decide) (br_f (by decide) (br_f (by decide) (br_t rfl ⟨vp_in_nI hb (by omega), vp_in_nI hc2 (by omega), ⟨vp_in_nI ht (by omega), nm_r (e' := upd va t (va b + va c)) (by rw [ct, cb, cc]) (nm_r (nI_1 q) zz)⟩⟩))))))⟩⟩⟩⟩
theorem dp_h4 {post : St2 → Prop} {L q : Nat} {S : Nat → Int32} (hL : L ≤ 64) (hq : q < L) (hT : dp_T L st S) (hj : ∀ q, q < L → ds_ct S q → jm q = dp_Tg S L q) (ho : ds_ok (q, va, ov, oc)) (z : ∀ (q' : Nat) (va' ov' oc' : Nat → Int32), ds_step S (dp_Tg S L) (q, va, ov, oc) = (q', va', ov', oc') → post (xP, xC, xA, nI L, xO, nI q', xS, xK, dA, aA, po, st, jm, pl, op, el, so, ip, va', ov', oc')) (k : S (q * 4) = 4) (va' : dl_v (S (q * 4 + 1))) (vb' : dl_v (S (q * 4 + 2))) (vc' : dl_v (S (q * 4 + 3))) : wpX_step post (xP, xC, xA, nI L, xO, nI q, xS, xK, dA, aA, po, st, jm, pl, op, el, so, ip, va, ov, oc) := by
  have p0 := hT.1 (q * 4) (by omega)
  have p1 := hT.1 (q * 4 + 1) (by omega)
  have p2 := hT.1 (q * 4 + 2) (by omega)
  have p3 := hT.1 (q * 4 + 3) (by omega)
  obtain ⟨v0, c0⟩ := dl_s0 (show q < 64 by omega)
  obtain ⟨v1, c1⟩ := dl_s1 (show q < 64 by omega)
  obtain ⟨v2, c2⟩ := dl_s2 (show q < 64 by omega)
  obtain ⟨v3, c3⟩ := dl_s3 (show q < 64 by omega)
  have vq : vp_in (nI q) 64 := vp_in_nI (by omega) (by omega)
  have cq := dl_c (show q < 2 ^ 31 by omega)
  obtain ⟨t, ht, ea⟩ := va'
  have ct := dl_c (show t < 2 ^ 31 by omega)
  have ia : ds_a S q = t := by
    unfold ds_a
    rw [ea, ct]
  obtain ⟨b, hb, eb⟩ := vb'
  have cb := dl_c (show b < 2 ^ 31 by omega)
  have ib : ds_b S q = b := by
    unfold ds_b
    rw [eb, cb]
  obtain ⟨c, hc2, ec⟩ := vc'
  have cc := dl_c (show c < 2 ^ 31 by omega)
  have ic : ds_c S q = c := by
    unfold ds_c
    rw [ec, cc]
  have nb : ¬ ds_br (S (q * 4)) := by
    unfold ds_br
    rw [k]
    decide
  have nj : ¬ ds_jp (S (q * 4)) := by
    unfold ds_jp
    rw [k]
    decide
  have n12 : ¬ S (q * 4) = 12 := by
    rw [k]
    decide
  have ev : ds_val S va q = va b - va c := by
    unfold ds_val
    rw [if_neg (by rw [k]; decide), if_neg (by rw [k]; decide), if_pos k, ib, ic]
  have e : ds_step S (dp_Tg S L) (q, va, ov, oc) = (q + 1, upd va t (va b - va c), ov, oc) := by
    rw [ds_step_w nb nj n12]
    show (q + 1, upd va (ds_a S q) (ds_val S va q), ov, oc) = _
    rw [ia, ev]
  have zz := z _ _ _ _ e
  unfold wpX_step
  exact nm_r (dl_m4 q) ⟨v0, nm_r (e' := 4) (by rw [c0]; exact p0.trans k) ⟨v1, nm_r (e' := nI t) (by rw [c1]; exact p1.trans ea) ⟨v2, nm_r (e' := nI b) (by rw [c2]; exact p2.trans eb) ⟨v3, nm_r (e' := nI c) (by rw [c3]; exact p3.trans ec) (br_t (by decide) (br_f (by decide) (br_f (by decide) (br_f (by decide) (br_f (by decide) (br_f (by decide) (br_t rfl ⟨vp_in_nI hb (by omega), vp_in_nI hc2 (by omega), ⟨vp_in_nI ht (by omega), nm_r (e' := upd va t (va b - va c)) (by rw [ct, cb, cc]) (nm_r (nI_1 q) zz)⟩⟩)))))))⟩⟩⟩⟩
theorem dp_h5 {post : St2 → Prop} {L q : Nat} {S : Nat → Int32} (hL : L ≤ 64) (hq : q < L) (hT : dp_T L st S) (hj : ∀ q, q < L → ds_ct S q → jm q = dp_Tg S L q) (ho : ds_ok (q, va, ov, oc)) (z : ∀ (q' : Nat) (va' ov' oc' : Nat → Int32), ds_step S (dp_Tg S L) (q, va, ov, oc) = (q', va', ov', oc') → post (xP, xC, xA, nI L, xO, nI q', xS, xK, dA, aA, po, st, jm, pl, op, el, so, ip, va', ov', oc')) (k : S (q * 4) = 5) (va' : dl_v (S (q * 4 + 1))) (vb' : dl_v (S (q * 4 + 2))) (vc' : dl_v (S (q * 4 + 3))) : wpX_step post (xP, xC, xA, nI L, xO, nI q, xS, xK, dA, aA, po, st, jm, pl, op, el, so, ip, va, ov, oc) := by
  have p0 := hT.1 (q * 4) (by omega)
  have p1 := hT.1 (q * 4 + 1) (by omega)
  have p2 := hT.1 (q * 4 + 2) (by omega)
  have p3 := hT.1 (q * 4 + 3) (by omega)
  obtain ⟨v0, c0⟩ := dl_s0 (show q < 64 by omega)
  obtain ⟨v1, c1⟩ := dl_s1 (show q < 64 by omega)
  obtain ⟨v2, c2⟩ := dl_s2 (show q < 64 by omega)
  obtain ⟨v3, c3⟩ := dl_s3 (show q < 64 by omega)
  have vq : vp_in (nI q) 64 := vp_in_nI (by omega) (by omega)
  have cq := dl_c (show q < 2 ^ 31 by omega)
  obtain ⟨t, ht, ea⟩ := va'
  have ct := dl_c (show t < 2 ^ 31 by omega)
  have ia : ds_a S q = t := by
    unfold ds_a
    rw [ea, ct]
  obtain ⟨b, hb, eb⟩ := vb'
  have cb := dl_c (show b < 2 ^ 31 by omega)
  have ib : ds_b S q = b := by
    unfold ds_b
    rw [eb, cb]
  obtain ⟨c, hc2, ec⟩ := vc'
  have cc := dl_c (show c < 2 ^ 31 by omega)
  have ic : ds_c S q = c := by
    unfold ds_c
    rw [ec, cc]
  have nb : ¬ ds_br (S (q * 4)) := by
    unfold ds_br
    rw [k]
    decide
  have nj : ¬ ds_jp (S (q * 4)) := by
    unfold ds_jp
    rw [k]
    decide
  have n12 : ¬ S (q * 4) = 12 := by
    rw [k]
    decide
  have ev : ds_val S va q = va b * va c := by
    unfold ds_val
    rw [if_neg (by rw [k]; decide), if_neg (by rw [k]; decide), if_neg (by rw [k]; decide), if_pos k, ib, ic]
  have e : ds_step S (dp_Tg S L) (q, va, ov, oc) = (q + 1, upd va t (va b * va c), ov, oc) := by
    rw [ds_step_w nb nj n12]
    show (q + 1, upd va (ds_a S q) (ds_val S va q), ov, oc) = _
    rw [ia, ev]
  have zz := z _ _ _ _ e
  unfold wpX_step
  exact nm_r (dl_m4 q) ⟨v0, nm_r (e' := 5) (by rw [c0]; exact p0.trans k) ⟨v1, nm_r (e' := nI t) (by rw [c1]; exact p1.trans ea) ⟨v2, nm_r (e' := nI b) (by rw [c2]; exact p2.trans eb) ⟨v3, nm_r (e' := nI c) (by rw [c3]; exact p3.trans ec) (br_t (by decide) (br_f (by decide) (br_f (by decide) (br_f (by decide) (br_f (by decide) (br_f (by decide) (br_f (by decide) (br_t rfl ⟨vp_in_nI hb (by omega), vp_in_nI hc2 (by omega), ⟨vp_in_nI ht (by omega), nm_r (e' := upd va t (va b * va c)) (by rw [ct, cb, cc]) (nm_r (nI_1 q) zz)⟩⟩))))))))⟩⟩⟩⟩
theorem dp_h6 {post : St2 → Prop} {L q : Nat} {S : Nat → Int32} (hL : L ≤ 64) (hq : q < L) (hT : dp_T L st S) (hj : ∀ q, q < L → ds_ct S q → jm q = dp_Tg S L q) (ho : ds_ok (q, va, ov, oc)) (z : ∀ (q' : Nat) (va' ov' oc' : Nat → Int32), ds_step S (dp_Tg S L) (q, va, ov, oc) = (q', va', ov', oc') → post (xP, xC, xA, nI L, xO, nI q', xS, xK, dA, aA, po, st, jm, pl, op, el, so, ip, va', ov', oc')) (k : S (q * 4) = 6) (va' : dl_v (S (q * 4 + 1))) (vb' : dl_v (S (q * 4 + 2))) (vc' : dl_v (S (q * 4 + 3))) : wpX_step post (xP, xC, xA, nI L, xO, nI q, xS, xK, dA, aA, po, st, jm, pl, op, el, so, ip, va, ov, oc) := by
  have p0 := hT.1 (q * 4) (by omega)
  have p1 := hT.1 (q * 4 + 1) (by omega)
  have p2 := hT.1 (q * 4 + 2) (by omega)
  have p3 := hT.1 (q * 4 + 3) (by omega)
  obtain ⟨v0, c0⟩ := dl_s0 (show q < 64 by omega)
  obtain ⟨v1, c1⟩ := dl_s1 (show q < 64 by omega)
  obtain ⟨v2, c2⟩ := dl_s2 (show q < 64 by omega)
  obtain ⟨v3, c3⟩ := dl_s3 (show q < 64 by omega)
  have vq : vp_in (nI q) 64 := vp_in_nI (by omega) (by omega)
  have cq := dl_c (show q < 2 ^ 31 by omega)
  obtain ⟨t, ht, ea⟩ := va'
  have ct := dl_c (show t < 2 ^ 31 by omega)
  have ia : ds_a S q = t := by
    unfold ds_a
    rw [ea, ct]
  obtain ⟨b, hb, eb⟩ := vb'
  have cb := dl_c (show b < 2 ^ 31 by omega)
  have ib : ds_b S q = b := by
    unfold ds_b
    rw [eb, cb]
  obtain ⟨c, hc2, ec⟩ := vc'
  have cc := dl_c (show c < 2 ^ 31 by omega)
  have ic : ds_c S q = c := by
    unfold ds_c
    rw [ec, cc]
  have nb : ¬ ds_br (S (q * 4)) := by
    unfold ds_br
    rw [k]
    decide
  have nj : ¬ ds_jp (S (q * 4)) := by
    unfold ds_jp
    rw [k]
    decide
  have n12 : ¬ S (q * 4) = 12 := by
    rw [k]
    decide
  by_cases g : va c ≤ va b
  · have ev : ds_val S va q = 0 := by
      unfold ds_val
      rw [if_neg (by rw [k]; decide), if_neg (by rw [k]; decide), if_neg (by rw [k]; decide), if_neg (by rw [k]; decide), if_pos k, ib, ic, if_neg (Int32.not_lt.mpr g)]
    have e : ds_step S (dp_Tg S L) (q, va, ov, oc) = (q + 1, upd va t (0), ov, oc) := by
      rw [ds_step_w nb nj n12]
      show (q + 1, upd va (ds_a S q) (ds_val S va q), ov, oc) = _
      rw [ia, ev]
    have zz := z _ _ _ _ e
    unfold wpX_step
    refine nm_r (dl_m4 q) ⟨v0, nm_r (e' := 6) (by rw [c0]; exact p0.trans k) ⟨v1, nm_r (e' := nI t) (by rw [c1]; exact p1.trans ea) ⟨v2, nm_r (e' := nI b) (by rw [c2]; exact p2.trans eb) ⟨v3, nm_r (e' := nI c) (by rw [c3]; exact p3.trans ec) (br_t (by decide) (br_f (by decide) (br_f (by decide) (br_f (by decide) (br_f (by decide) (br_f (by decide) (br_f (by decide) (br_f (by decide) (br_t rfl ⟨vp_in_nI hb (by omega), vp_in_nI hc2 (by omega), ?_⟩)))))))))⟩⟩⟩⟩
    rw [cb, cc]
    exact br_t g ⟨vp_in_nI ht (by omega), nm_r (e' := upd va t 0) (by rw [ct]) (nm_r (nI_1 q) zz)⟩
  · have ev : ds_val S va q = 1 := by
      unfold ds_val
      rw [if_neg (by rw [k]; decide), if_neg (by rw [k]; decide), if_neg (by rw [k]; decide), if_neg (by rw [k]; decide), if_pos k, ib, ic, if_pos (Int32.not_le.mp g)]
    have e : ds_step S (dp_Tg S L) (q, va, ov, oc) = (q + 1, upd va t (1), ov, oc) := by
      rw [ds_step_w nb nj n12]
      show (q + 1, upd va (ds_a S q) (ds_val S va q), ov, oc) = _
      rw [ia, ev]
    have zz := z _ _ _ _ e
    unfold wpX_step
    refine nm_r (dl_m4 q) ⟨v0, nm_r (e' := 6) (by rw [c0]; exact p0.trans k) ⟨v1, nm_r (e' := nI t) (by rw [c1]; exact p1.trans ea) ⟨v2, nm_r (e' := nI b) (by rw [c2]; exact p2.trans eb) ⟨v3, nm_r (e' := nI c) (by rw [c3]; exact p3.trans ec) (br_t (by decide) (br_f (by decide) (br_f (by decide) (br_f (by decide) (br_f (by decide) (br_f (by decide) (br_f (by decide) (br_f (by decide) (br_t rfl ⟨vp_in_nI hb (by omega), vp_in_nI hc2 (by omega), ?_⟩)))))))))⟩⟩⟩⟩
    rw [cb, cc]
    exact br_f g ⟨vp_in_nI ht (by omega), nm_r (e' := upd va t 1) (by rw [ct]) (nm_r (nI_1 q) zz)⟩
theorem dp_h7 {post : St2 → Prop} {L q : Nat} {S : Nat → Int32} (hL : L ≤ 64) (hq : q < L) (hT : dp_T L st S) (hj : ∀ q, q < L → ds_ct S q → jm q = dp_Tg S L q) (ho : ds_ok (q, va, ov, oc)) (z : ∀ (q' : Nat) (va' ov' oc' : Nat → Int32), ds_step S (dp_Tg S L) (q, va, ov, oc) = (q', va', ov', oc') → post (xP, xC, xA, nI L, xO, nI q', xS, xK, dA, aA, po, st, jm, pl, op, el, so, ip, va', ov', oc')) (k : S (q * 4) = 7) (va' : dl_v (S (q * 4 + 1))) (vb' : dl_v (S (q * 4 + 2))) (vc' : dl_v (S (q * 4 + 3))) : wpX_step post (xP, xC, xA, nI L, xO, nI q, xS, xK, dA, aA, po, st, jm, pl, op, el, so, ip, va, ov, oc) := by
  have p0 := hT.1 (q * 4) (by omega)
  have p1 := hT.1 (q * 4 + 1) (by omega)
  have p2 := hT.1 (q * 4 + 2) (by omega)
  have p3 := hT.1 (q * 4 + 3) (by omega)
  obtain ⟨v0, c0⟩ := dl_s0 (show q < 64 by omega)
  obtain ⟨v1, c1⟩ := dl_s1 (show q < 64 by omega)
  obtain ⟨v2, c2⟩ := dl_s2 (show q < 64 by omega)
  obtain ⟨v3, c3⟩ := dl_s3 (show q < 64 by omega)
  have vq : vp_in (nI q) 64 := vp_in_nI (by omega) (by omega)
  have cq := dl_c (show q < 2 ^ 31 by omega)
  obtain ⟨t, ht, ea⟩ := va'
  have ct := dl_c (show t < 2 ^ 31 by omega)
  have ia : ds_a S q = t := by
    unfold ds_a
    rw [ea, ct]
  obtain ⟨b, hb, eb⟩ := vb'
  have cb := dl_c (show b < 2 ^ 31 by omega)
  have ib : ds_b S q = b := by
    unfold ds_b
    rw [eb, cb]
  obtain ⟨c, hc2, ec⟩ := vc'
  have cc := dl_c (show c < 2 ^ 31 by omega)
  have ic : ds_c S q = c := by
    unfold ds_c
    rw [ec, cc]
  have nb : ¬ ds_br (S (q * 4)) := by
    unfold ds_br
    rw [k]
    decide
  have nj : ¬ ds_jp (S (q * 4)) := by
    unfold ds_jp
    rw [k]
    decide
  have n12 : ¬ S (q * 4) = 12 := by
    rw [k]
    decide
  by_cases g : va b = va c
  · have ev : ds_val S va q = 1 := by
      unfold ds_val
      rw [if_neg (by rw [k]; decide), if_neg (by rw [k]; decide), if_neg (by rw [k]; decide), if_neg (by rw [k]; decide), if_neg (by rw [k]; decide), if_pos k, ib, ic, if_pos g]
    have e : ds_step S (dp_Tg S L) (q, va, ov, oc) = (q + 1, upd va t (1), ov, oc) := by
      rw [ds_step_w nb nj n12]
      show (q + 1, upd va (ds_a S q) (ds_val S va q), ov, oc) = _
      rw [ia, ev]
    have zz := z _ _ _ _ e
    unfold wpX_step
    refine nm_r (dl_m4 q) ⟨v0, nm_r (e' := 7) (by rw [c0]; exact p0.trans k) ⟨v1, nm_r (e' := nI t) (by rw [c1]; exact p1.trans ea) ⟨v2, nm_r (e' := nI b) (by rw [c2]; exact p2.trans eb) ⟨v3, nm_r (e' := nI c) (by rw [c3]; exact p3.trans ec) (br_t (by decide) (br_f (by decide) (br_f (by decide) (br_f (by decide) (br_f (by decide) (br_f (by decide) (br_f (by decide) (br_f (by decide) (br_f (by decide) (br_t rfl ⟨vp_in_nI hb (by omega), vp_in_nI hc2 (by omega), ?_⟩))))))))))⟩⟩⟩⟩
    rw [cb, cc]
    exact br_t g ⟨vp_in_nI ht (by omega), nm_r (e' := upd va t 1) (by rw [ct]) (nm_r (nI_1 q) zz)⟩
  · have ev : ds_val S va q = 0 := by
      unfold ds_val
      rw [if_neg (by rw [k]; decide), if_neg (by rw [k]; decide), if_neg (by rw [k]; decide), if_neg (by rw [k]; decide), if_neg (by rw [k]; decide), if_pos k, ib, ic, if_neg g]
    have e : ds_step S (dp_Tg S L) (q, va, ov, oc) = (q + 1, upd va t (0), ov, oc) := by
      rw [ds_step_w nb nj n12]
      show (q + 1, upd va (ds_a S q) (ds_val S va q), ov, oc) = _
      rw [ia, ev]
    have zz := z _ _ _ _ e
    unfold wpX_step
    refine nm_r (dl_m4 q) ⟨v0, nm_r (e' := 7) (by rw [c0]; exact p0.trans k) ⟨v1, nm_r (e' := nI t) (by rw [c1]; exact p1.trans ea) ⟨v2, nm_r (e' := nI b) (by rw [c2]; exact p2.trans eb) ⟨v3, nm_r (e' := nI c) (by rw [c3]; exact p3.trans ec) (br_t (by decide) (br_f (by decide) (br_f (by decide) (br_f (by decide) (br_f (by decide) (br_f (by decide) (br_f (by decide) (br_f (by decide) (br_f (by decide) (br_t rfl ⟨vp_in_nI hb (by omega), vp_in_nI hc2 (by omega), ?_⟩))))))))))⟩⟩⟩⟩
    rw [cb, cc]
    exact br_f g ⟨vp_in_nI ht (by omega), nm_r (e' := upd va t 0) (by rw [ct]) (nm_r (nI_1 q) zz)⟩
theorem dp_h12 {post : St2 → Prop} {L q : Nat} {S : Nat → Int32} (hL : L ≤ 64) (hq : q < L) (hT : dp_T L st S) (hj : ∀ q, q < L → ds_ct S q → jm q = dp_Tg S L q) (ho : ds_ok (q, va, ov, oc)) (z : ∀ (q' : Nat) (va' ov' oc' : Nat → Int32), ds_step S (dp_Tg S L) (q, va, ov, oc) = (q', va', ov', oc') → post (xP, xC, xA, nI L, xO, nI q', xS, xK, dA, aA, po, st, jm, pl, op, el, so, ip, va', ov', oc')) (k : S (q * 4) = 12) (va' : dl_hc (S (q * 4 + 1))) (vb' : dl_v (S (q * 4 + 2))) : wpX_step post (xP, xC, xA, nI L, xO, nI q, xS, xK, dA, aA, po, st, jm, pl, op, el, so, ip, va, ov, oc) := by
  have p0 := hT.1 (q * 4) (by omega)
  have p1 := hT.1 (q * 4 + 1) (by omega)
  have p2 := hT.1 (q * 4 + 2) (by omega)
  have p3 := hT.1 (q * 4 + 3) (by omega)
  obtain ⟨v0, c0⟩ := dl_s0 (show q < 64 by omega)
  obtain ⟨v1, c1⟩ := dl_s1 (show q < 64 by omega)
  obtain ⟨v2, c2⟩ := dl_s2 (show q < 64 by omega)
  obtain ⟨v3, c3⟩ := dl_s3 (show q < 64 by omega)
  have vq : vp_in (nI q) 64 := vp_in_nI (by omega) (by omega)
  have cq := dl_c (show q < 2 ^ 31 by omega)
  obtain ⟨t, ht, ea⟩ := va'
  have ct := dl_c (show t < 2 ^ 31 by omega)
  have ia : ds_a S q = t := by
    unfold ds_a
    rw [ea, ct]
  obtain ⟨b, hb, eb⟩ := vb'
  have cb := dl_c (show b < 2 ^ 31 by omega)
  have ib : ds_b S q = b := by
    unfold ds_b
    rw [eb, cb]
  have nb : ¬ ds_br (S (q * 4)) := by
    unfold ds_br
    rw [k]
    decide
  have nj : ¬ ds_jp (S (q * 4)) := by
    unfold ds_jp
    rw [k]
    decide
  obtain ⟨n, hn, en⟩ := ho t ht
  have en : oc t = nI n := en
  have ecn : ds_cn oc t = n := by
    unfold ds_cn
    rw [en, dl_c (by omega)]
  have vt : vp_in (nI t) 4 := vp_in_nI ht (by omega)
  have vb2 : vp_in (nI b) 16 := vp_in_nI hb (by omega)
  rcases Nat.lt_or_ge n 16 with n16 | n16
  · have l1 : nI n < 16 := nI_lt (b := 16) n16 (by omega)
    have vo : vp_in (nI (t * 16 + n)) 64 := vp_in_nI (by omega) (by omega)
    have co := dl_c (show t * 16 + n < 2 ^ 31 by omega)
    have e : ds_step S (dp_Tg S L) (q, va, ov, oc) = (q + 1, va, upd ov (t * 16 + n) (va b), upd oc t (nI (n + 1))) := by
      rw [ds_step_o1 nb nj k (by show ds_cn oc (ds_a S q) < 16; rw [ia, ecn]; exact n16)]
      show (q + 1, va, upd ov (ds_a S q * 16 + ds_cn oc (ds_a S q)) (va (ds_b S q)), upd oc (ds_a S q) (nI (ds_cn oc (ds_a S q) + 1))) = _
      rw [ia, ib, ecn]
    have zz := z _ _ _ _ e
    unfold wpX_step
    refine nm_r (dl_m4 q) ⟨v0, nm_r (e' := 12) (by rw [c0]; exact p0.trans k) ⟨v1, nm_r (e' := nI t) (by rw [c1]; exact p1.trans ea) ⟨v2, nm_r (e' := nI b) (by rw [c2]; exact p2.trans eb) ⟨v3, nm_e (br_f (by decide) (br_f (by decide) (br_f (by decide) (br_f (by decide) (br_f (by decide) (br_f (by decide) (br_t rfl ⟨vb2, ?_⟩)))))))⟩⟩⟩⟩
    unfold wpX_append
    refine ⟨vt, nm_r (e' := nI n) (by rw [ct]; exact en) (br_t l1 ?_)⟩
    rw [dl_m16, co, ct, cb, nI_1]
    exact ⟨vo, nm_e ⟨vt, nm_e (nm_r (nI_1 q) zz)⟩⟩
  · have l1 : ¬ nI n < 16 := nI_nlt (b := 16) n16 (by omega)
    have e : ds_step S (dp_Tg S L) (q, va, ov, oc) = (q + 1, va, ov, oc) := by
      rw [ds_step_o0 nb nj k (by show ¬ ds_cn oc (ds_a S q) < 16; rw [ia, ecn]; omega)]
    have zz := z _ _ _ _ e
    unfold wpX_step
    refine nm_r (dl_m4 q) ⟨v0, nm_r (e' := 12) (by rw [c0]; exact p0.trans k) ⟨v1, nm_r (e' := nI t) (by rw [c1]; exact p1.trans ea) ⟨v2, nm_r (e' := nI b) (by rw [c2]; exact p2.trans eb) ⟨v3, nm_e (br_f (by decide) (br_f (by decide) (br_f (by decide) (br_f (by decide) (br_f (by decide) (br_f (by decide) (br_t rfl ⟨vb2, ?_⟩)))))))⟩⟩⟩⟩
    unfold wpX_append
    exact ⟨vt, nm_r (e' := nI n) (by rw [ct]; exact en) (br_f l1 (nm_r (nI_1 q) zz))⟩
theorem dp_h8 {post : St2 → Prop} {L q : Nat} {S : Nat → Int32} (hL : L ≤ 64) (hq : q < L) (hT : dp_T L st S) (hj : ∀ q, q < L → ds_ct S q → jm q = dp_Tg S L q) (ho : ds_ok (q, va, ov, oc)) (z : ∀ (q' : Nat) (va' ov' oc' : Nat → Int32), ds_step S (dp_Tg S L) (q, va, ov, oc) = (q', va', ov', oc') → post (xP, xC, xA, nI L, xO, nI q', xS, xK, dA, aA, po, st, jm, pl, op, el, so, ip, va', ov', oc')) (k : S (q * 4) = 8) (va' : dl_v (S (q * 4 + 1))) : wpX_step post (xP, xC, xA, nI L, xO, nI q, xS, xK, dA, aA, po, st, jm, pl, op, el, so, ip, va, ov, oc) := by
  have p0 := hT.1 (q * 4) (by omega)
  have p1 := hT.1 (q * 4 + 1) (by omega)
  have p2 := hT.1 (q * 4 + 2) (by omega)
  have p3 := hT.1 (q * 4 + 3) (by omega)
  obtain ⟨v0, c0⟩ := dl_s0 (show q < 64 by omega)
  obtain ⟨v1, c1⟩ := dl_s1 (show q < 64 by omega)
  obtain ⟨v2, c2⟩ := dl_s2 (show q < 64 by omega)
  obtain ⟨v3, c3⟩ := dl_s3 (show q < 64 by omega)
  have vq : vp_in (nI q) 64 := vp_in_nI (by omega) (by omega)
  have cq := dl_c (show q < 2 ^ 31 by omega)
  obtain ⟨t, ht, ea⟩ := va'
  have ct := dl_c (show t < 2 ^ 31 by omega)
  have ia : ds_a S q = t := by
    unfold ds_a
    rw [ea, ct]
  have kb : ds_br (S (q * 4)) := Or.inl k
  by_cases g : va t = 0
  · obtain ⟨q', hq', e⟩ := dp_Tg_r (S := S) hq hL
    have ej := (hj q hq (Or.inl kb)).trans e
    have es : ds_step S (dp_Tg S L) (q, va, ov, oc) = (q', va, ov, oc) := by
      rw [ds_step_b0 kb (by show va (ds_a S q) = 0; rw [ia]; exact g)]
      show ((dp_Tg S L q).toNatClampNeg, va, ov, oc) = _
      rw [e, dl_c (by omega)]
    have zz := z _ _ _ _ es
    unfold wpX_step
    refine nm_r (dl_m4 q) ⟨v0, nm_r (e' := 8) (by rw [c0]; exact p0.trans k) ⟨v1, nm_r (e' := nI t) (by rw [c1]; exact p1.trans ea) ⟨v2, nm_e ⟨v3, nm_e (br_f (by decide) (br_f (by decide) (br_t rfl (?_))))⟩⟩⟩⟩
    unfold wX_step_80
    rw [ct, cq]
    exact ⟨vp_in_nI ht (by omega), br_t g ⟨vq, nm_r ej zz⟩⟩
  · have es : ds_step S (dp_Tg S L) (q, va, ov, oc) = (q + 1, va, ov, oc) := by
      rw [ds_step_b1 kb (by show ¬ va (ds_a S q) = 0; rw [ia]; exact g)]
    have zz := z _ _ _ _ es
    unfold wpX_step
    refine nm_r (dl_m4 q) ⟨v0, nm_r (e' := 8) (by rw [c0]; exact p0.trans k) ⟨v1, nm_r (e' := nI t) (by rw [c1]; exact p1.trans ea) ⟨v2, nm_e ⟨v3, nm_e (br_f (by decide) (br_f (by decide) (br_t rfl (?_))))⟩⟩⟩⟩
    unfold wX_step_80
    rw [ct]
    exact ⟨vp_in_nI ht (by omega), br_f g (nm_r (nI_1 q) zz)⟩
theorem dp_h11 {post : St2 → Prop} {L q : Nat} {S : Nat → Int32} (hL : L ≤ 64) (hq : q < L) (hT : dp_T L st S) (hj : ∀ q, q < L → ds_ct S q → jm q = dp_Tg S L q) (ho : ds_ok (q, va, ov, oc)) (z : ∀ (q' : Nat) (va' ov' oc' : Nat → Int32), ds_step S (dp_Tg S L) (q, va, ov, oc) = (q', va', ov', oc') → post (xP, xC, xA, nI L, xO, nI q', xS, xK, dA, aA, po, st, jm, pl, op, el, so, ip, va', ov', oc')) (k : S (q * 4) = 11) (va' : dl_v (S (q * 4 + 1))) : wpX_step post (xP, xC, xA, nI L, xO, nI q, xS, xK, dA, aA, po, st, jm, pl, op, el, so, ip, va, ov, oc) := by
  have p0 := hT.1 (q * 4) (by omega)
  have p1 := hT.1 (q * 4 + 1) (by omega)
  have p2 := hT.1 (q * 4 + 2) (by omega)
  have p3 := hT.1 (q * 4 + 3) (by omega)
  obtain ⟨v0, c0⟩ := dl_s0 (show q < 64 by omega)
  obtain ⟨v1, c1⟩ := dl_s1 (show q < 64 by omega)
  obtain ⟨v2, c2⟩ := dl_s2 (show q < 64 by omega)
  obtain ⟨v3, c3⟩ := dl_s3 (show q < 64 by omega)
  have vq : vp_in (nI q) 64 := vp_in_nI (by omega) (by omega)
  have cq := dl_c (show q < 2 ^ 31 by omega)
  obtain ⟨t, ht, ea⟩ := va'
  have ct := dl_c (show t < 2 ^ 31 by omega)
  have ia : ds_a S q = t := by
    unfold ds_a
    rw [ea, ct]
  have kb : ds_br (S (q * 4)) := Or.inr k
  by_cases g : va t = 0
  · obtain ⟨q', hq', e⟩ := dp_Tg_r (S := S) hq hL
    have ej := (hj q hq (Or.inl kb)).trans e
    have es : ds_step S (dp_Tg S L) (q, va, ov, oc) = (q', va, ov, oc) := by
      rw [ds_step_b0 kb (by show va (ds_a S q) = 0; rw [ia]; exact g)]
      show ((dp_Tg S L q).toNatClampNeg, va, ov, oc) = _
      rw [e, dl_c (by omega)]
    have zz := z _ _ _ _ es
    unfold wpX_step
    refine nm_r (dl_m4 q) ⟨v0, nm_r (e' := 11) (by rw [c0]; exact p0.trans k) ⟨v1, nm_r (e' := nI t) (by rw [c1]; exact p1.trans ea) ⟨v2, nm_e ⟨v3, nm_e (br_f (by decide) (br_f (by decide) (br_f (by decide) (br_f (by decide) (br_f (by decide) (br_t rfl (?_)))))))⟩⟩⟩⟩
    unfold wX_step_80
    rw [ct, cq]
    exact ⟨vp_in_nI ht (by omega), br_t g ⟨vq, nm_r ej zz⟩⟩
  · have es : ds_step S (dp_Tg S L) (q, va, ov, oc) = (q + 1, va, ov, oc) := by
      rw [ds_step_b1 kb (by show ¬ va (ds_a S q) = 0; rw [ia]; exact g)]
    have zz := z _ _ _ _ es
    unfold wpX_step
    refine nm_r (dl_m4 q) ⟨v0, nm_r (e' := 11) (by rw [c0]; exact p0.trans k) ⟨v1, nm_r (e' := nI t) (by rw [c1]; exact p1.trans ea) ⟨v2, nm_e ⟨v3, nm_e (br_f (by decide) (br_f (by decide) (br_f (by decide) (br_f (by decide) (br_f (by decide) (br_t rfl (?_)))))))⟩⟩⟩⟩
    unfold wX_step_80
    rw [ct]
    exact ⟨vp_in_nI ht (by omega), br_f g (nm_r (nI_1 q) zz)⟩
theorem dp_h9 {post : St2 → Prop} {L q : Nat} {S : Nat → Int32} (hL : L ≤ 64) (hq : q < L) (hT : dp_T L st S) (hj : ∀ q, q < L → ds_ct S q → jm q = dp_Tg S L q) (ho : ds_ok (q, va, ov, oc)) (z : ∀ (q' : Nat) (va' ov' oc' : Nat → Int32), ds_step S (dp_Tg S L) (q, va, ov, oc) = (q', va', ov', oc') → post (xP, xC, xA, nI L, xO, nI q', xS, xK, dA, aA, po, st, jm, pl, op, el, so, ip, va', ov', oc')) (k : S (q * 4) = 9) : wpX_step post (xP, xC, xA, nI L, xO, nI q, xS, xK, dA, aA, po, st, jm, pl, op, el, so, ip, va, ov, oc) := by
  have p0 := hT.1 (q * 4) (by omega)
  have p1 := hT.1 (q * 4 + 1) (by omega)
  have p2 := hT.1 (q * 4 + 2) (by omega)
  have p3 := hT.1 (q * 4 + 3) (by omega)
  obtain ⟨v0, c0⟩ := dl_s0 (show q < 64 by omega)
  obtain ⟨v1, c1⟩ := dl_s1 (show q < 64 by omega)
  obtain ⟨v2, c2⟩ := dl_s2 (show q < 64 by omega)
  obtain ⟨v3, c3⟩ := dl_s3 (show q < 64 by omega)
  have vq : vp_in (nI q) 64 := vp_in_nI (by omega) (by omega)
  have cq := dl_c (show q < 2 ^ 31 by omega)
  have kj : ds_jp (S (q * 4)) := Or.inl k
  have nb : ¬ ds_br (S (q * 4)) := by
    unfold ds_br
    rw [k]
    decide
  obtain ⟨q', hq', e⟩ := dp_Tg_r (S := S) hq hL
  have ej := (hj q hq (Or.inr kj)).trans e
  have es : ds_step S (dp_Tg S L) (q, va, ov, oc) = (q', va, ov, oc) := by
    rw [ds_step_j nb kj]
    show ((dp_Tg S L q).toNatClampNeg, va, ov, oc) = _
    rw [e, dl_c (by omega)]
  have zz := z _ _ _ _ es
  unfold wpX_step
  refine nm_r (dl_m4 q) ⟨v0, nm_r (e' := 9) (by rw [c0]; exact p0.trans k) ⟨v1, nm_e ⟨v2, nm_e ⟨v3, nm_e (br_f (by decide) (br_f (by decide) (br_f (by decide) (br_t rfl (?_)))))⟩⟩⟩⟩
  unfold wX_step_114
  rw [cq]
  exact ⟨vq, nm_r ej zz⟩
theorem dp_h10 {post : St2 → Prop} {L q : Nat} {S : Nat → Int32} (hL : L ≤ 64) (hq : q < L) (hT : dp_T L st S) (hj : ∀ q, q < L → ds_ct S q → jm q = dp_Tg S L q) (ho : ds_ok (q, va, ov, oc)) (z : ∀ (q' : Nat) (va' ov' oc' : Nat → Int32), ds_step S (dp_Tg S L) (q, va, ov, oc) = (q', va', ov', oc') → post (xP, xC, xA, nI L, xO, nI q', xS, xK, dA, aA, po, st, jm, pl, op, el, so, ip, va', ov', oc')) (k : S (q * 4) = 10) : wpX_step post (xP, xC, xA, nI L, xO, nI q, xS, xK, dA, aA, po, st, jm, pl, op, el, so, ip, va, ov, oc) := by
  have p0 := hT.1 (q * 4) (by omega)
  have p1 := hT.1 (q * 4 + 1) (by omega)
  have p2 := hT.1 (q * 4 + 2) (by omega)
  have p3 := hT.1 (q * 4 + 3) (by omega)
  obtain ⟨v0, c0⟩ := dl_s0 (show q < 64 by omega)
  obtain ⟨v1, c1⟩ := dl_s1 (show q < 64 by omega)
  obtain ⟨v2, c2⟩ := dl_s2 (show q < 64 by omega)
  obtain ⟨v3, c3⟩ := dl_s3 (show q < 64 by omega)
  have vq : vp_in (nI q) 64 := vp_in_nI (by omega) (by omega)
  have cq := dl_c (show q < 2 ^ 31 by omega)
  have kj : ds_jp (S (q * 4)) := Or.inr k
  have nb : ¬ ds_br (S (q * 4)) := by
    unfold ds_br
    rw [k]
    decide
  obtain ⟨q', hq', e⟩ := dp_Tg_r (S := S) hq hL
  have ej := (hj q hq (Or.inr kj)).trans e
  have es : ds_step S (dp_Tg S L) (q, va, ov, oc) = (q', va, ov, oc) := by
    rw [ds_step_j nb kj]
    show ((dp_Tg S L q).toNatClampNeg, va, ov, oc) = _
    rw [e, dl_c (by omega)]
  have zz := z _ _ _ _ es
  unfold wpX_step
  refine nm_r (dl_m4 q) ⟨v0, nm_r (e' := 10) (by rw [c0]; exact p0.trans k) ⟨v1, nm_e ⟨v2, nm_e ⟨v3, nm_e (br_f (by decide) (br_f (by decide) (br_f (by decide) (br_f (by decide) (br_t rfl (?_))))))⟩⟩⟩⟩
  unfold wX_step_114
  rw [cq]
  exact ⟨vq, nm_r ej zz⟩
theorem dp_step {post : St2 → Prop} {L q : Nat} {S : Nat → Int32} (hL : L ≤ 64) (hq : q < L) (hT : dp_T L st S) (hj : ∀ q, q < L → ds_ct S q → jm q = dp_Tg S L q) (ho : ds_ok (q, va, ov, oc)) (z : ∀ (q' : Nat) (va' ov' oc' : Nat → Int32), ds_step S (dp_Tg S L) (q, va, ov, oc) = (q', va', ov', oc') → post (xP, xC, xA, nI L, xO, nI q', xS, xK, dA, aA, po, st, jm, pl, op, el, so, ip, va', ov', oc')) : wpX_step post (xP, xC, xA, nI L, xO, nI q, xS, xK, dA, aA, po, st, jm, pl, op, el, so, ip, va, ov, oc) := by
  rcases hT.2 q hq with ⟨k, h1, _⟩ | ⟨k, h1, h2, _⟩ | ⟨k, h1, h2, _⟩ | ⟨k, h1, h2, h3⟩ | ⟨k, h1, _⟩ | ⟨k, _⟩ | ⟨k, h1, h2, _⟩
  · exact dp_h1 hL hq hT hj ho z k h1
  · exact dp_h2 hL hq hT hj ho z k h1 h2
  · exact dp_h13 hL hq hT hj ho z k h1 h2
  · rcases k with k | k | k | k | k
    · exact dp_h3 hL hq hT hj ho z k h1 h2 h3
    · exact dp_h4 hL hq hT hj ho z k h1 h2 h3
    · exact dp_h5 hL hq hT hj ho z k h1 h2 h3
    · exact dp_h6 hL hq hT hj ho z k h1 h2 h3
    · exact dp_h7 hL hq hT hj ho z k h1 h2 h3
  · rcases k with k | k
    · exact dp_h8 hL hq hT hj ho z k h1
    · exact dp_h11 hL hq hT hj ho z k h1
  · rcases k with k | k
    · exact dp_h9 hL hq hT hj ho z k
    · exact dp_h10 hL hq hT hj ho z k
  · exact dp_h12 hL hq hT hj ho z k h1 h2
theorem dp_step_L {S : Nat → Int32} {L : Nat} {s : ds_S} (hL : L ≤ 64) (hq : s.1 < L) : (ds_step S (dp_Tg S L) s).1 ≤ L := by
  obtain ⟨r, r1, r2⟩ := dp_Tg_r (S := S) hq hL
  have c : (dp_Tg S L s.1).toNatClampNeg ≤ L := by
    rw [r2, dl_c (by omega)]
    exact r1
  by_cases b : ds_br (S (s.1 * 4))
  · by_cases g : s.2.1 (ds_a S s.1) = 0
    · rw [ds_step_b0 b g]; exact c
    · rw [ds_step_b1 b g]; exact hq
  · by_cases j : ds_jp (S (s.1 * 4))
    · rw [ds_step_j b j]; exact c
    · rw [ds_step_1 b j]; exact hq
/-- the run's loop -/
theorem dp_runl {post : Int32 → St2 → Prop} {L m : Nat} {S : Nat → Int32} (hL : L ≤ 64) (hm : m ≤ 1000) (hT : dp_T L st S) (hj : ∀ q, q < L → ds_ct S q → jm q = dp_Tg S L q) : ∀ (d t : Nat) (s : ds_S), t + d = m → s.1 ≤ L → ds_ok s → (∀ (r x : Int32) (s' : ds_S), s' = ds_run S (dp_Tg S L) L d s → s'.1 ≤ L → ds_ok s' → (x = 2 ∨ (x = 3 ∧ ¬ s'.1 < L)) → post r (xP, xC, xA, nI L, xO, nI s'.1, x, xK, dA, aA, po, st, jm, pl, op, el, so, ip, s'.2.1, s'.2.2.1, s'.2.2.2)) → wX_run_24 post (nI m) (d + 1) (nI t) xP xC xA (nI L) xO (nI s.1) 2 xK dA aA po st jm pl op el so ip s.2.1 s.2.2.1 s.2.2.2 := by
  intro d
  induction d with
  | zero =>
    intro t s hd hq ho z
    have e : t = m := by omega
    subst e
    have le : nI t ≤ nI t := nI_le (Nat.le_refl _) (by omega)
    rcases Nat.lt_or_ge s.1 L with h | h
    · exact br_t le (br_t (nI_lt h (by omega)) (z _ 2 s rfl hq ho (Or.inl rfl)))
    · exact br_t le (br_f (nI_nlt h (by omega)) (z _ 3 s rfl hq ho (Or.inr ⟨rfl, by omega⟩)))
  | succ d ih =>
    intro t s hd hq ho z
    have ge : ¬ nI m ≤ nI t := nI_ge (by omega) (by omega)
    rcases Nat.lt_or_ge s.1 L with h | h
    · refine br_f ge (br_f (nI_ge h (by omega)) (dp_step hL h hT hj ho (fun q' va' ov' oc' e => nm_r (nI_1 t) ?_)))
      refine ih (t + 1) (q', va', ov', oc') (by omega) ?_ ?_ (fun r x s' hs => z r x s' ?_)
      · have g := dp_step_L (S := S) hL h
        rw [show s = (s.1, s.2.1, s.2.2.1, s.2.2.2) from rfl, e] at g
        exact g
      · have g := ds_step_ok (st := S) (jm := dp_Tg S L) ho
        rw [show s = (s.1, s.2.1, s.2.2.1, s.2.2.2) from rfl, e] at g
        exact g
      · rw [hs, ds_run_s h, show s = (s.1, s.2.1, s.2.2.1, s.2.2.2) from rfl, e]
    · refine br_f ge (br_t (nI_le h (by omega)) (br_f (nI_nlt h (by omega)) (z _ 3 s ?_ hq ho (Or.inr ⟨rfl, by omega⟩))))
      exact (ds_run_e (by omega) _).symm
/-- a checked object, with its inputs; a running one, with its machine -/
def dp_I (P L p : Nat) (S : Nat → Int32) (lv lc : Nat → Prop) (ip' : Nat → Int32) (u : St2) : Prop := match u with
  | (xP, xC, xA, xL, xO, xQ, xS, xK, dA, aA, po, st, jm, pl, op, el, so, ip, va, ov, oc) => xP = nI P ∧ xL = nI L ∧ ip = ip' ∧ (2 ≤ P ∧ P ≤ 8) ∧ L ≤ 64 ∧ dp_T L st S ∧ (∀ q, q < L → ds_ct S q → jm q = dp_Tg S L q) ∧ lv = ds_lv P aA po p ∧ lc = ds_lc P aA po p ∧ ¬ xS = 0
def dp_M (P L p : Nat) (S : Nat → Int32) (lv lc : Nat → Prop) (x : Int32) (s : ds_S) (u : St2) : Prop := match u with
  | (xP, xC, xA, xL, xO, xQ, xS, xK, dA, aA, po, st, jm, pl, op, el, so, ip, va, ov, oc) => xP = nI P ∧ xL = nI L ∧ xQ = nI s.1 ∧ xS = x ∧ va = s.2.1 ∧ ov = s.2.2.1 ∧ oc = s.2.2.2 ∧ (2 ≤ P ∧ P ≤ 8) ∧ L ≤ 64 ∧ dp_T L st S ∧ (∀ q, q < L → ds_ct S q → jm q = dp_Tg S L q) ∧ lv = ds_lv P aA po p ∧ lc = ds_lc P aA po p ∧ s.1 ≤ L ∧ ds_ok s ∧ (x = 2 ∨ (x = 3 ∧ ¬ s.1 < L))
theorem dp_I_of {P L p : Nat} {S : Nat → Int32} {lv lc : Nat → Prop} {u : St2} (h : dp_X P L S u) (g : dp_C P L p S lv lc u) : dp_I P L p S lv lc (fun _ => 0) u := by
  obtain ⟨xP, xC, xA, xL, xO, xQ, xS, xK, dA, aA, po, st, jm, pl, op, el, so, ip, va, ov, oc⟩ := u
  obtain ⟨h1, h2, h3, h4, h5, h6, h7, h8⟩ := h
  obtain ⟨g1, g2, g3, g4, _⟩ := g
  exact ⟨h1, h4, h5, h6, h7, h8, g2, g3, g4, g1⟩
theorem dp_canI {post : Int32 → Prop} {P L p v : Nat} {S : Nat → Int32} {lv lc : Nat → Prop} {ip' : Nat → Int32} {u : St2} (hp : p < P) (hv : v < 16) (h : dp_I P L p S lv lc ip' u) (h1 : lv v → post 1) (h0 : ¬ lv v → post 0) : wpX_canRead post u (nI p) (nI v) := by
  obtain ⟨xP, xC, xA, xL, xO, xQ, xS, xK, dA, aA, po, st, jm, pl, op, el, so, ip, va, ov, oc⟩ := u
  obtain ⟨rfl, rfl, rfl, ⟨P2, P8⟩, hL, hT, hj, rfl, rfl, hs⟩ := h
  unfold wpX_canRead
  exact dx_isP1 P8 hp (br_f (by decide) (dx_isTarget1 (by omega) (br_f (by decide) (dx_rd P8 (by omega) hp (fun z => h1 ⟨hv, z⟩) (fun z => h0 (fun y => z y.2))))))
theorem dp_canM {post : Int32 → Prop} {P L p c : Nat} {S : Nat → Int32} {lv lc : Nat → Prop} {x : Int32} {s : ds_S} {u : St2} (hp : p < P) (hc : c < 4) (h : dp_M P L p S lv lc x s u) (h1 : lc c → post 1) (h0 : ¬ lc c → post 0) : wpX_canRead post u (nI p) (16 + nI c) := by
  obtain ⟨xP, xC, xA, xL, xO, xQ, xS, xK, dA, aA, po, st, jm, pl, op, el, so, ip, va, ov, oc⟩ := u
  obtain ⟨rfl, rfl, rfl, rfl, rfl, rfl, rfl, ⟨P2, P8⟩, hL, hT, hj, rfl, rfl, _⟩ := h
  rw [show (16 : Int32) + nI c = nI (16 + c) from nI_add 16 c]
  unfold wpX_canRead
  exact dx_isP1 P8 hp (br_f (by decide) (dx_isTarget1 (by omega) (br_f (by decide) (dx_rd P8 (by omega) hp (fun z => h1 ⟨hc, z⟩) (fun z => h0 (fun y => z y.2))))))
theorem dp_setI {post : Int32 → St2 → Prop} {P L p v : Nat} {S : Nat → Int32} {lv lc : Nat → Prop} {ip' : Nat → Int32} {u : St2} {y : Int32} (hv : v < 16) (h : dp_I P L p S lv lc ip' u) (q : ∀ r u', dp_I P L p S lv lc (upd ip' v y) u' → post r u') : wpX_setInput post u (nI v) y := by
  obtain ⟨xP, xC, xA, xL, xO, xQ, xS, xK, dA, aA, po, st, jm, pl, op, el, so, ip, va, ov, oc⟩ := u
  obtain ⟨rfl, rfl, rfl, ⟨P2, P8⟩, hL, hT, hj, rfl, rfl, hs⟩ := h
  unfold wpX_setInput
  refine dx_isVariable1 hv (br_f (by decide) ⟨vp_in_nI hv (by omega), nm_r (e' := upd ip v y) (by rw [dl_c (by omega)]) (q _ _ ?_)⟩)
  exact ⟨rfl, rfl, rfl, ⟨P2, P8⟩, hL, hT, hj, rfl, rfl, hs⟩
theorem dl_zn4 (f : Nat → Int32) : ∀ c, c < 4 → dl_zn f 4 c = 0 := by
  intro c hc
  have e : c = 0 ∨ c = 1 ∨ c = 2 ∨ c = 3 := by omega
  rcases e with e | e | e | e <;> subst e <;> rfl
theorem dx_load {post : Int32 → St2 → Prop} (h : post 1 (xP, xC, xA, xL, xO, 0, 2, xK, dA, aA, po, st, jm, pl, op, el, so, ip, dl_row ip va 16, ov, dl_zn oc 4)) : ∃ n, wX_start_11 post xP xC xA xL xO xQ xS xK n 0 dA aA po st jm pl op el so ip va ov oc := by
  refine loop_0 (fun n i a => wX_start_11 post xP xC xA xL xO xQ xS xK n (nI i) dA aA po st jm pl op el so ip a ov oc) (fun i a => a = dl_row ip va i) 16 va (dl_row_0 _ _).symm ?_ ?_
  · intro n a ha
    subst ha
    exact br_t (nI_le (a := 16) (b := 16) (by omega) (by omega)) (dx_empty h)
  · intro n i a hi ha ih
    subst ha
    refine br_f (nI_ge (b := 16) hi (by omega)) ?_
    rw [dl_c (show i < 2 ^ 31 by omega)]
    exact ⟨vp_in_nI (by omega) (by omega), vp_in_nI (by omega) (by omega), nm_e (nm_r (nI_1 i) (ih _ (dl_row_s rfl)))⟩
theorem dp_start {post : Int32 → St2 → Prop} {P L p : Nat} {S : Nat → Int32} {lv lc : Nat → Prop} {ip' : Nat → Int32} {u : St2} (h : dp_I P L p S lv lc ip' u) (q : ∀ (s : ds_S) u', s.1 = 0 → (∀ v, v < 16 → s.2.1 v = ip' v) → (∀ c, c < 4 → s.2.2.2 c = 0) → dp_M P L p S lv lc 2 s u' → post 1 u') : wpX_start post u := by
  obtain ⟨xP, xC, xA, xL, xO, xQ, xS, xK, dA, aA, po, st, jm, pl, op, el, so, ip, va, ov, oc⟩ := u
  obtain ⟨rfl, rfl, rfl, ⟨P2, P8⟩, hL, hT, hj, rfl, rfl, hs⟩ := h
  unfold wpX_start
  refine br_f hs (dx_load (q (0, dl_row ip va 16, ov, dl_zn oc 4) _ rfl (fun v hv => dl_row_l hv) (dl_zn4 oc) ?_))
  exact ⟨rfl, rfl, rfl, rfl, rfl, rfl, rfl, ⟨P2, P8⟩, hL, hT, hj, rfl, rfl, Nat.zero_le _, fun c hc => ⟨0, by omega, dl_zn4 oc c hc⟩, Or.inl rfl⟩
theorem dp_run {post : Int32 → St2 → Prop} {P L p n : Nat} {S : Nat → Int32} {lv lc : Nat → Prop} {x : Int32} {s : ds_S} {u : St2} (n1 : 1 ≤ n) (n2 : n ≤ 1000) (h : dp_M P L p S lv lc x s u) (q : ∀ (r x' : Int32) (s' : ds_S) u', s' = ds_run S (dp_Tg S L) L n s → dp_M P L p S lv lc x' s' u' → post r u') : wpX_run post u (nI n) := by
  have hh := h
  obtain ⟨xP, xC, xA, xL, xO, xQ, xS, xK, dA, aA, po, st, jm, pl, op, el, so, ip, va, ov, oc⟩ := u
  obtain ⟨rfl, rfl, rfl, rfl, rfl, rfl, rfl, ⟨P2, P8⟩, hL, hT, hj, rfl, rfl, sL, ok, hx⟩ := h
  unfold wpX_run
  rcases hx with rfl | ⟨rfl, hx⟩
  · refine br_t rfl ?_
    unfold wpX_clamp
    refine br_t (nI_le (a := 1) n1 (by omega)) (br_t (nI_le (b := 1000) n2 (by omega)) ⟨n + 1, ?_⟩)
    refine dp_runl hL n2 hT hj n 0 s (by omega) sL ok (fun r x s' hs a1 a2 a3 => q r x s' _ hs ?_)
    exact ⟨rfl, rfl, rfl, rfl, rfl, rfl, rfl, ⟨P2, P8⟩, hL, hT, hj, rfl, rfl, a1, a2, a3⟩
  · exact br_f (by decide) (q _ 3 s _ (ds_run_e hx n).symm hh)
theorem dp_stat {post : Int32 → Prop} {P L p : Nat} {S : Nat → Int32} {lv lc : Nat → Prop} {x : Int32} {s : ds_S} {u : St2} (h : dp_M P L p S lv lc x s u) (q : post x) : wpX_getValue post u 35 := by
  obtain ⟨xP, xC, xA, xL, xO, xQ, xS, xK, dA, aA, po, st, jm, pl, op, el, so, ip, va, ov, oc⟩ := u
  obtain ⟨rfl, rfl, rfl, rfl, _⟩ := h
  unfold wpX_getValue
  refine dx_isVariable0 (Or.inr ⟨by decide, by decide⟩) (br_t rfl (br_f (by decide) (br_t (by decide) ?_)))
  unfold wX_getValue_36
  exact br_f (by decide) (br_f (by decide) (br_f (by decide) (br_f (by decide) (br_f (by decide) (br_t rfl q)))))
theorem dp_cnt {post : Int32 → Prop} {P L p c : Nat} {S : Nat → Int32} {lv lc : Nat → Prop} {x : Int32} {s : ds_S} {u : St2} (hc : c < 4) (h : dp_M P L p S lv lc x s u) (q : post (s.2.2.2 c)) : wpX_outCount post u (nI c) := by
  obtain ⟨xP, xC, xA, xL, xO, xQ, xS, xK, dA, aA, po, st, jm, pl, op, el, so, ip, va, ov, oc⟩ := u
  obtain ⟨rfl, rfl, rfl, rfl, rfl, rfl, rfl, _⟩ := h
  unfold wpX_outCount
  refine dx_isChannel1 hc (br_f (by decide) ⟨vp_in_nI hc (by omega), ?_⟩)
  rw [dl_c (by omega)]
  exact q
theorem dp_val {post : Int32 → Prop} {P L p c i : Nat} {S : Nat → Int32} {lv lc : Nat → Prop} {x : Int32} {s : ds_S} {u : St2} (hc : c < 4) (h : dp_M P L p S lv lc x s u) (hi : i < ds_cn s.2.2.2 c) (q : post (s.2.2.1 (c * 16 + i))) : wpX_outValue post u (nI c) (nI i) := by
  obtain ⟨xP, xC, xA, xL, xO, xQ, xS, xK, dA, aA, po, st, jm, pl, op, el, so, ip, va, ov, oc⟩ := u
  obtain ⟨rfl, rfl, rfl, rfl, rfl, rfl, rfl, _, _, _, _, _, _, _, ok, _⟩ := h
  obtain ⟨n, hn, en⟩ := ok c hc
  have ei : i < n := by
    unfold ds_cn at hi
    rw [en, dl_c (by omega)] at hi
    exact hi
  unfold wpX_outValue
  refine dx_isChannel1 hc (br_f (by decide) (br_f (nI_pos (by omega)) ⟨vp_in_nI hc (by omega), ?_⟩))
  rw [dl_c (show c < 2 ^ 31 by omega), en, dl_m16, dl_c (show c * 16 + i < 2 ^ 31 by omega)]
  exact br_t (nI_lt ei (by omega)) ⟨vp_in_nI (by omega) (by omega), q⟩
end
end
section
/-! p18: the law's last part: rounds, channels -/
section
variable {xP xC xA xL xO xQ xS xK xP' xC' xA' xL' xO' xQ' xS' xK' : Int32} {dA aA po st jm pl op el so ip va ov oc dA' aA' po' st' jm' pl' op' el' so' ip' va' ov' oc' : Nat → Int32}

theorem dp_ofInt {y : Int32} {n : Nat} (h0 : 0 ≤ y.toInt) (h1 : y.toInt < n) : ∃ j, j < n ∧ y = nI j := by
  have z : (0 : Int32).toInt = 0 := by decide
  obtain ⟨j, hj, rfl⟩ := nI_of (x := y) (by rw [Int32.lt_iff_toInt_lt, z]; omega)
  rw [nI_toInt hj] at h1
  exact ⟨j, by omega, rfl⟩
theorem dp_cell {post : Int32 → Prop} {N k : Nat} {xs : Nat → Int32} (hN : N ≤ 260) (hk : k < 100000) (q : ∀ x, post x) : wpL_cell post N xs () (nI k) := by
  refine br_c (fun _ => q _) (fun h => ⟨?_, q _⟩)
  have h2 : ¬ nI N ≤ nI k := h
  rw [nI_leI (by omega) (by omega)] at h2
  exact vp_in_nI (by omega) (by omega)
theorem dp_m {post : Int32 → Prop} (n : Nat) (h0 : 0 < n) (hn : n < 100000) {x : Int32} (q : ∀ r, r < n → post (nI r)) : wpL_m post () x (nI n) := by
  have t := tmod_bounds (a := x.toInt) (M := (nI n).toInt) (by rw [nI_toInt (by omega)]; omega)
  rw [← rem_toInt] at t
  have b := fmOf_bounds (r := x - x / nI n * nI n) (m := nI n) (by rw [nI_toInt (by omega)]; omega) t.1 t.2
  obtain ⟨j, hj, e⟩ := dp_ofInt b.1 (n := n) (by have := b.2; rw [nI_toInt (by omega)] at this; exact this)
  refine ⟨nI_ne0 h0 (by omega), nm_e (br_c (fun h => ?_) (fun h => ?_))⟩
  · have e2 : x - x / nI n * nI n = nI j := (show fmOf (x - x / nI n * nI n) (nI n) = _ from if_pos h).symm.trans e
    rw [e2]
    exact q j hj
  · have e2 : x - x / nI n * nI n + nI n = nI j := (show fmOf (x - x / nI n * nI n) (nI n) = _ from if_neg h).symm.trans e
    rw [e2]
    exact q j hj
theorem dp_ma {post : Int32 → Prop} {x d : Int32} (h : ¬ d = 0) (q : ∀ y, post y) : wpL_m post () x d := ⟨h, nm_e (br_c (fun _ => q _) (fun _ => q _))⟩
theorem dp_849 {post : Int32 → Prop} {N : Nat} {xs : Nat → Int32} {J698 : Int32 → Int32 → Int32 → Int32 → Int32 → Int32 → Int32 → Int32 → Int32 → Int32 → (Nat → Int32) → (Nat → Int32) → (Nat → Int32) → (Nat → Int32) → (Nat → Int32) → (Nat → Int32) → (Nat → Int32) → (Nat → Int32) → (Nat → Int32) → (Nat → Int32) → (Nat → Int32) → (Nat → Int32) → (Nat → Int32) → Int32 → Int32 → Int32 → Int32 → Int32 → Int32 → Int32 → Int32 → (Nat → Int32) → (Nat → Int32) → (Nat → Int32) → (Nat → Int32) → (Nat → Int32) → (Nat → Int32) → (Nat → Int32) → (Nat → Int32) → (Nat → Int32) → (Nat → Int32) → (Nat → Int32) → (Nat → Int32) → (Nat → Int32) → Prop} {J788 : Int32 → Prop} {x2 x6 x10 x13 x15 x16 : Int32} {kc ks n c P P' L p p' : Nat} {S S' : Nat → Int32} {lv lc lv' lc' : Nat → Prop} {x x' : Int32} {s t : ds_S} (hc : c < 4) (hA : dp_M P L p S lv lc x s (xP, xC, xA, xL, xO, xQ, xS, xK, dA, aA, po, st, jm, pl, op, el, so, ip, va, ov, oc)) (hB : dp_M P' L p' S' lv' lc' x' t (xP', xC', xA', xL', xO', xQ', xS', xK', dA', aA', po', st', jm', pl', op', el', so', ip', va', ov', oc')) (hn : n < 100000) (hv : ∀ i, i < n → i < ds_cn s.2.2.2 c ∧ i < ds_cn t.2.2.2 c ∧ s.2.2.1 (c * 16 + i) = t.2.2.1 (c * 16 + i)) (hx : ¬ x13 = 0 → x15 = x16) (hJ : J788 (nI (c + 1))) : ∃ f, wL_law_849 post N xs J698 J788 x2 x6 x10 x13 (nI c) x15 x16 (nI n) kc ks xP xC xA xL xO xQ xS xK dA aA po st jm pl op el so ip va ov oc xP' xC' xA' xL' xO' xQ' xS' xK' dA' aA' po' st' jm' pl' op' el' so' ip' va' ov' oc' f 0 := by
  refine loop_0 (fun f i (_ : Unit) => wL_law_849 post N xs J698 J788 x2 x6 x10 x13 (nI c) x15 x16 (nI n) kc ks xP xC xA xL xO xQ xS xK dA aA po st jm pl op el so ip va ov oc xP' xC' xA' xL' xO' xQ' xS' xK' dA' aA' po' st' jm' pl' op' el' so' ip' va' ov' oc' f (nI i)) (fun _ _ => True) n () trivial ?_ ?_
  · intro f _ _
    exact br_t (nI_le (Nat.le_refl _) (by omega)) (br_c (fun _ => nm_r (nI_1 c) hJ) (fun z => br_t (hx z) (nm_r (nI_1 c) hJ)))
  · intro f i _ hi _ ih
    obtain ⟨a1, a2, a3⟩ := hv i hi
    exact br_f (nI_ge hi (by omega)) (dp_val hc hA a1 (dp_val hc hB a2 (br_t a3 (nm_r (nI_1 i) (ih () trivial)))))
theorem dp_788 {post : Int32 → Prop} {N : Nat} {xs : Nat → Int32} {J698 : Int32 → Int32 → Int32 → Int32 → Int32 → Int32 → Int32 → Int32 → Int32 → Int32 → (Nat → Int32) → (Nat → Int32) → (Nat → Int32) → (Nat → Int32) → (Nat → Int32) → (Nat → Int32) → (Nat → Int32) → (Nat → Int32) → (Nat → Int32) → (Nat → Int32) → (Nat → Int32) → (Nat → Int32) → (Nat → Int32) → Int32 → Int32 → Int32 → Int32 → Int32 → Int32 → Int32 → Int32 → (Nat → Int32) → (Nat → Int32) → (Nat → Int32) → (Nat → Int32) → (Nat → Int32) → (Nat → Int32) → (Nat → Int32) → (Nat → Int32) → (Nat → Int32) → (Nat → Int32) → (Nat → Int32) → (Nat → Int32) → (Nat → Int32) → Prop} {x2 x13 : Int32} {kc ks rd P P' L p p' : Nat} {S S' : Nat → Int32} {lv lc lv' lc' : Nat → Prop} {x x' : Int32} {s t : ds_S} (hp : p < P) (hA : dp_M P L p S lv lc x s (xP, xC, xA, xL, xO, xQ, xS, xK, dA, aA, po, st, jm, pl, op, el, so, ip, va, ov, oc)) (hB : dp_M P' L p' S' lv' lc' x' t (xP', xC', xA', xL', xO', xQ', xS', xK', dA', aA', po', st', jm', pl', op', el', so', ip', va', ov', oc')) (hR : ds_R L lc s t) (hx : ¬ x13 = 0 → ¬ s.1 < L ∧ ¬ t.1 < L) (hJ : J698 x2 (nI (rd + 1)) xP xC xA xL xO xQ xS xK dA aA po st jm pl op el so ip va ov oc xP' xC' xA' xL' xO' xQ' xS' xK' dA' aA' po' st' jm' pl' op' el' so' ip' va' ov' oc') : ∃ f, wL_law_788 post N xs J698 x2 (nI p) (nI rd) x13 kc ks xP xC xA xL xO xQ xS xK dA aA po st jm pl op el so ip va ov oc xP' xC' xA' xL' xO' xQ' xS' xK' dA' aA' po' st' jm' pl' op' el' so' ip' va' ov' oc' f 0 := by
  have okA : ds_ok s := hA.2.2.2.2.2.2.2.2.2.2.2.2.2.2.1
  have okB : ds_ok t := hB.2.2.2.2.2.2.2.2.2.2.2.2.2.2.1
  refine loop_0 (fun f i (_ : Unit) => wL_law_788 post N xs J698 x2 (nI p) (nI rd) x13 kc ks xP xC xA xL xO xQ xS xK dA aA po st jm pl op el so ip va ov oc xP' xC' xA' xL' xO' xQ' xS' xK' dA' aA' po' st' jm' pl' op' el' so' ip' va' ov' oc' f (nI i)) (fun _ _ => True) 4 () trivial ?_ ?_
  · intro f _ _
    exact br_t (nI_le (a := 4) (b := 4) (by omega) (by omega)) (nm_r (nI_1 rd) hJ)
  · intro f c _ hc _ ih
    obtain ⟨n, hn, en⟩ := okA c hc
    obtain ⟨m, hm, em⟩ := okB c hc
    have cn : ds_cn s.2.2.2 c = n := by
      unfold ds_cn
      rw [en, nI_clamp (by omega)]
    have cm : ds_cn t.2.2.2 c = m := by
      unfold ds_cn
      rw [em, nI_clamp (by omega)]
    refine br_f (nI_ge (b := 4) hc (by omega)) (dp_canM hp hc hA (fun l => br_f (by decide) (dp_cnt hc hA (dp_cnt hc hB ?_))) (fun _ => br_t rfl (nm_r (nI_1 c) (ih () trivial))))
    have R := hR c hc l
    rw [cn, cm] at R
    have he : ¬ x13 = 0 → nI n = nI m := fun z => by
      have := R.2 (hx z).1 (hx z).2
      rw [en, em] at this
      exact this
    rw [en, em]
    refine br_c (fun le => ?_) (fun le => ?_)
    · rw [nI_leI (by omega) (by omega)] at le
      exact dp_849 hc hA hB (by omega) (fun i hi => ⟨by omega, by omega, R.1 i (by omega) (by omega)⟩) he (ih () trivial)
    · rw [nI_leI (by omega) (by omega)] at le
      exact dp_849 hc hA hB (by omega) (fun i hi => ⟨by omega, by omega, R.1 i (by omega) (by omega)⟩) he (ih () trivial)
theorem dp_698 {post : Int32 → Prop} {N : Nat} {xs : Nat → Int32} {kc ks P P' L p p' : Nat} {S : Nat → Int32} {lv lc lv' lc' : Nat → Prop} {s t : ds_S} (hN : N ≤ 260) (h1 : post 1) (hp : p < P) (F : ∀ a b, ds_R L lc (ds_run S (dp_Tg S L) L a s) (ds_run S (dp_Tg S L) L b t)) : ∀ (d rd k a b : Nat) (x x' : Int32) (u v : St2), rd + d = 2 → k ≤ 6000 + 10 * rd → dp_M P L p S lv lc x (ds_run S (dp_Tg S L) L a s) u → dp_M P' L p' S lv' lc' x' (ds_run S (dp_Tg S L) L b t) v → wL_law_698 post N xs (nI p) kc ks (d + 1) (nI k) (nI rd) u.1 u.2.1 u.2.2.1 u.2.2.2.1 u.2.2.2.2.1 u.2.2.2.2.2.1 u.2.2.2.2.2.2.1 u.2.2.2.2.2.2.2.1 u.2.2.2.2.2.2.2.2.1 u.2.2.2.2.2.2.2.2.2.1 u.2.2.2.2.2.2.2.2.2.2.1 u.2.2.2.2.2.2.2.2.2.2.2.1 u.2.2.2.2.2.2.2.2.2.2.2.2.1 u.2.2.2.2.2.2.2.2.2.2.2.2.2.1 u.2.2.2.2.2.2.2.2.2.2.2.2.2.2.1 u.2.2.2.2.2.2.2.2.2.2.2.2.2.2.2.1 u.2.2.2.2.2.2.2.2.2.2.2.2.2.2.2.2.1 u.2.2.2.2.2.2.2.2.2.2.2.2.2.2.2.2.2.1 u.2.2.2.2.2.2.2.2.2.2.2.2.2.2.2.2.2.2.1 u.2.2.2.2.2.2.2.2.2.2.2.2.2.2.2.2.2.2.2.1 u.2.2.2.2.2.2.2.2.2.2.2.2.2.2.2.2.2.2.2.2 v.1 v.2.1 v.2.2.1 v.2.2.2.1 v.2.2.2.2.1 v.2.2.2.2.2.1 v.2.2.2.2.2.2.1 v.2.2.2.2.2.2.2.1 v.2.2.2.2.2.2.2.2.1 v.2.2.2.2.2.2.2.2.2.1 v.2.2.2.2.2.2.2.2.2.2.1 v.2.2.2.2.2.2.2.2.2.2.2.1 v.2.2.2.2.2.2.2.2.2.2.2.2.1 v.2.2.2.2.2.2.2.2.2.2.2.2.2.1 v.2.2.2.2.2.2.2.2.2.2.2.2.2.2.1 v.2.2.2.2.2.2.2.2.2.2.2.2.2.2.2.1 v.2.2.2.2.2.2.2.2.2.2.2.2.2.2.2.2.1 v.2.2.2.2.2.2.2.2.2.2.2.2.2.2.2.2.2.1 v.2.2.2.2.2.2.2.2.2.2.2.2.2.2.2.2.2.2.1 v.2.2.2.2.2.2.2.2.2.2.2.2.2.2.2.2.2.2.2.1 v.2.2.2.2.2.2.2.2.2.2.2.2.2.2.2.2.2.2.2.2 := by
  intro d
  induction d with
  | zero =>
    intro rd k a b x x' u v hd hk hA hB
    have e : rd = 2 := by omega
    subst e
    exact br_t (nI_le (a := 2) (b := 2) (by omega) (by omega)) h1
  | succ d ih =>
    intro rd k a b x x' u v hd hk hA hB
    refine br_f (nI_ge (b := 2) (by omega) (by omega)) (nm_r (nI_1 k) (dp_cell hN (by omega) (fun _ => dp_m 1000 (by omega) (by omega) (fun n hn => nm_r (show (1 : Int32) + nI n = nI (1 + n) from nI_add 1 n) (nm_r (nI_1 (k + 1)) (dp_cell hN (by omega) (fun _ => dp_m 1000 (by omega) (by omega) (fun m hm => nm_r (show (1 : Int32) + nI m = nI (1 + m) from nI_add 1 m) ?_))))))))
    refine dp_run (by omega) (by omega) hA (fun _ y s' u' es hA' => ?_)
    obtain ⟨xP, xC, xA, xL, xO, xQ, xS, xK, dA, aA, po, st, jm, pl, op, el, so, ip, va, ov, oc⟩ := u'
    refine dp_run (by omega) (by omega) hB (fun _ y' t' v' et hB' => ?_)
    obtain ⟨xP', xC', xA', xL', xO', xQ', xS', xK', dA', aA', po', st', jm', pl', op', el', so', ip', va', ov', oc'⟩ := v'
    rw [← ds_run_add] at es et
    subst es et
    have G := F (a + (1 + n)) (b + (1 + m))
    have nx := ih (rd + 1) (k + 2) (a + (1 + n)) (b + (1 + m)) y y' (xP, xC, xA, xL, xO, xQ, xS, xK, dA, aA, po, st, jm, pl, op, el, so, ip, va, ov, oc) (xP', xC', xA', xL', xO', xQ', xS', xK', dA', aA', po', st', jm', pl', op', el', so', ip', va', ov', oc') (by omega) (by omega) hA' hB'
    have hy : y = 3 → ¬ (ds_run S (dp_Tg S L) L (a + (1 + n)) s).1 < L := fun z => by
      rcases hA'.2.2.2.2.2.2.2.2.2.2.2.2.2.2.2 with w | w
      · rw [z] at w
        exact absurd w (by decide)
      · exact w.2
    have hy' : y' = 3 → ¬ (ds_run S (dp_Tg S L) L (b + (1 + m)) t).1 < L := fun z => by
      rcases hB'.2.2.2.2.2.2.2.2.2.2.2.2.2.2.2 with w | w
      · rw [z] at w
        exact absurd w (by decide)
      · exact w.2
    refine dp_stat hA' (br_c (fun e1 => dp_stat hB' (br_c (fun e2 => ?_) (fun e2 => ?_))) (fun e1 => ?_))
    · exact dp_788 hp hA' hB' G (fun _ => ⟨hy e1, hy' e2⟩) nx
    · exact dp_788 hp hA' hB' G (fun z => absurd rfl z) nx
    · exact dp_788 hp hA' hB' G (fun z => absurd rfl z) nx
end
end
section
/-! p18: inputs, checks, the building of the program -/
section
theorem ds_lc4 {P : Nat} {A po : Nat → Int32} {p : Nat} : ∀ c, ds_lc P A po p c → c < 4 := fun _ h => h.1
theorem dp_s3 (r : Nat) : ∃ y : Int32, nI r - 3 = y := ⟨_, rfl⟩
theorem dp_593 {post : Int32 → Prop} {N : Nat} {xs : Nat → Int32} {kc ks P P' L p p' : Nat} {S : Nat → Int32} {lv lc lv' lc' : Nat → Prop} (hN : N ≤ 260) (h1 : post 1) (hp : p < P) (hl : ∀ x, lv x → x < 16) (hl4 : ∀ c, lc c → c < 4) (F : ds_F S (dp_Tg S L) L lv lc) : ∀ (d j k : Nat) (ia ib : Nat → Int32) (u v : St2), j + d = 6 → k ≤ 5000 + 10 * j → (∀ x, lv x → ia x = ib x) → dp_I P L p S lv lc ia u → dp_I P' L p' S lv' lc' ib v → wL_law_593 post N xs (nI p) kc ks (d + 1) (nI k) (nI j) u.1 u.2.1 u.2.2.1 u.2.2.2.1 u.2.2.2.2.1 u.2.2.2.2.2.1 u.2.2.2.2.2.2.1 u.2.2.2.2.2.2.2.1 u.2.2.2.2.2.2.2.2.1 u.2.2.2.2.2.2.2.2.2.1 u.2.2.2.2.2.2.2.2.2.2.1 u.2.2.2.2.2.2.2.2.2.2.2.1 u.2.2.2.2.2.2.2.2.2.2.2.2.1 u.2.2.2.2.2.2.2.2.2.2.2.2.2.1 u.2.2.2.2.2.2.2.2.2.2.2.2.2.2.1 u.2.2.2.2.2.2.2.2.2.2.2.2.2.2.2.1 u.2.2.2.2.2.2.2.2.2.2.2.2.2.2.2.2.1 u.2.2.2.2.2.2.2.2.2.2.2.2.2.2.2.2.2.1 u.2.2.2.2.2.2.2.2.2.2.2.2.2.2.2.2.2.2.1 u.2.2.2.2.2.2.2.2.2.2.2.2.2.2.2.2.2.2.2.1 u.2.2.2.2.2.2.2.2.2.2.2.2.2.2.2.2.2.2.2.2 v.1 v.2.1 v.2.2.1 v.2.2.2.1 v.2.2.2.2.1 v.2.2.2.2.2.1 v.2.2.2.2.2.2.1 v.2.2.2.2.2.2.2.1 v.2.2.2.2.2.2.2.2.1 v.2.2.2.2.2.2.2.2.2.1 v.2.2.2.2.2.2.2.2.2.2.1 v.2.2.2.2.2.2.2.2.2.2.2.1 v.2.2.2.2.2.2.2.2.2.2.2.2.1 v.2.2.2.2.2.2.2.2.2.2.2.2.2.1 v.2.2.2.2.2.2.2.2.2.2.2.2.2.2.1 v.2.2.2.2.2.2.2.2.2.2.2.2.2.2.2.1 v.2.2.2.2.2.2.2.2.2.2.2.2.2.2.2.2.1 v.2.2.2.2.2.2.2.2.2.2.2.2.2.2.2.2.2.1 v.2.2.2.2.2.2.2.2.2.2.2.2.2.2.2.2.2.2.1 v.2.2.2.2.2.2.2.2.2.2.2.2.2.2.2.2.2.2.2.1 v.2.2.2.2.2.2.2.2.2.2.2.2.2.2.2.2.2.2.2.2 := by
  intro d
  induction d with
  | zero =>
    intro j k ia ib u v hd hk he hA hB
    have e : j = 6 := by omega
    subst e
    refine br_t (nI_le (a := 6) (b := 6) (by omega) (by omega)) (dp_start hA (fun s u' s1 s2 s3 hA' => ?_))
    obtain ⟨xP, xC, xA, xL, xO, xQ, xS, xK, dA, aA, po, st, jm, pl, op, el, so, ip, va, ov, oc⟩ := u'
    refine br_f (by decide) (dp_start hB (fun t v' t1 t2 t3 hB' => ?_))
    obtain ⟨xP', xC', xA', xL', xO', xQ', xS', xK', dA', aA', po', st', jm', pl', op', el', so', ip', va', ov', oc'⟩ := v'
    have oks : ds_ok s := hA'.2.2.2.2.2.2.2.2.2.2.2.2.2.2.1
    have okt : ds_ok t := hB'.2.2.2.2.2.2.2.2.2.2.2.2.2.2.1
    have le : ds_LE lv lc s t := by
      refine ⟨fun x hx => ?_, fun c hc hl => ⟨?_, fun i hi => ?_⟩⟩
      · rw [s2 x (hl x hx), t2 x (hl x hx)]
        exact he x hx
      · rw [s3 c hc, t3 c hc]
      · unfold ds_cn at hi
        rw [s3 c hc, show (0 : Int32).toNatClampNeg = 0 from by decide] at hi
        exact absurd hi (by omega)
    exact br_f (by decide) ⟨2 + 1, dp_698 hN h1 hp (fun a b => ds_main hl4 F (a + b) a b s t (Nat.le_refl _) oks okt (s1.trans t1.symm) le) 2 0 k 0 0 2 2 (xP, xC, xA, xL, xO, xQ, xS, xK, dA, aA, po, st, jm, pl, op, el, so, ip, va, ov, oc) (xP', xC', xA', xL', xO', xQ', xS', xK', dA', aA', po', st', jm', pl', op', el', so', ip', va', ov', oc') (by omega) (by omega) hA' hB'⟩
  | succ d ih =>
    intro j k ia ib u v hd hk he hA hB
    have fin : ∀ (k' : Nat) (y z : Int32), k' ≤ 5000 + 10 * (j + 1) → (lv j → y = z) → wL_law_649 post N xs (wL_law_593 post N xs (nI p) kc ks (d + 1)) (nI k') (nI p) (nI j) y z kc ks u.1 u.2.1 u.2.2.1 u.2.2.2.1 u.2.2.2.2.1 u.2.2.2.2.2.1 u.2.2.2.2.2.2.1 u.2.2.2.2.2.2.2.1 u.2.2.2.2.2.2.2.2.1 u.2.2.2.2.2.2.2.2.2.1 u.2.2.2.2.2.2.2.2.2.2.1 u.2.2.2.2.2.2.2.2.2.2.2.1 u.2.2.2.2.2.2.2.2.2.2.2.2.1 u.2.2.2.2.2.2.2.2.2.2.2.2.2.1 u.2.2.2.2.2.2.2.2.2.2.2.2.2.2.1 u.2.2.2.2.2.2.2.2.2.2.2.2.2.2.2.1 u.2.2.2.2.2.2.2.2.2.2.2.2.2.2.2.2.1 u.2.2.2.2.2.2.2.2.2.2.2.2.2.2.2.2.2.1 u.2.2.2.2.2.2.2.2.2.2.2.2.2.2.2.2.2.2.1 u.2.2.2.2.2.2.2.2.2.2.2.2.2.2.2.2.2.2.2.1 u.2.2.2.2.2.2.2.2.2.2.2.2.2.2.2.2.2.2.2.2 v.1 v.2.1 v.2.2.1 v.2.2.2.1 v.2.2.2.2.1 v.2.2.2.2.2.1 v.2.2.2.2.2.2.1 v.2.2.2.2.2.2.2.1 v.2.2.2.2.2.2.2.2.1 v.2.2.2.2.2.2.2.2.2.1 v.2.2.2.2.2.2.2.2.2.2.1 v.2.2.2.2.2.2.2.2.2.2.2.1 v.2.2.2.2.2.2.2.2.2.2.2.2.1 v.2.2.2.2.2.2.2.2.2.2.2.2.2.1 v.2.2.2.2.2.2.2.2.2.2.2.2.2.2.1 v.2.2.2.2.2.2.2.2.2.2.2.2.2.2.2.1 v.2.2.2.2.2.2.2.2.2.2.2.2.2.2.2.2.1 v.2.2.2.2.2.2.2.2.2.2.2.2.2.2.2.2.2.1 v.2.2.2.2.2.2.2.2.2.2.2.2.2.2.2.2.2.2.1 v.2.2.2.2.2.2.2.2.2.2.2.2.2.2.2.2.2.2.2.1 v.2.2.2.2.2.2.2.2.2.2.2.2.2.2.2.2.2.2.2.2 := by
      intro k' y z hk' hyz
      refine dp_setI (by omega) hA (fun _ u' hA' => ?_)
      obtain ⟨xP, xC, xA, xL, xO, xQ, xS, xK, dA, aA, po, st, jm, pl, op, el, so, ip, va, ov, oc⟩ := u'
      refine dp_setI (by omega) hB (fun _ v' hB' => ?_)
      obtain ⟨xP', xC', xA', xL', xO', xQ', xS', xK', dA', aA', po', st', jm', pl', op', el', so', ip', va', ov', oc'⟩ := v'
      refine nm_r (nI_1 j) (ih (j + 1) k' (upd ia j y) (upd ib j z) (xP, xC, xA, xL, xO, xQ, xS, xK, dA, aA, po, st, jm, pl, op, el, so, ip, va, ov, oc) (xP', xC', xA', xL', xO', xQ', xS', xK', dA', aA', po', st', jm', pl', op', el', so', ip', va', ov', oc') (by omega) hk' (fun x hx => ?_) hA' hB')
      by_cases e : x = j
      · subst e
        rw [pk_us, pk_us]
        exact hyz hx
      · rw [pk_un e, pk_un e]
        exact he x hx
    refine br_f (nI_ge (b := 6) (by omega) (by omega)) (nm_r (nI_1 k) (dp_cell hN (by omega) (fun _ => dp_m 7 (by omega) (by omega) (fun r hr => nm_e (dp_canI hp (by omega) hA (fun l => br_f (by decide) (fin _ _ _ (by omega) (fun _ => rfl))) (fun l => br_t rfl (nm_r (nI_1 (k + 1)) (dp_cell hN (by omega) (fun _ => dp_m 7 (by omega) (by omega) (fun r' hr' => fin _ _ _ (by omega) (fun z => absurd z l)))))))))))
theorem dp_572 {post : Int32 → Prop} {N : Nat} {xs : Nat → Int32} {kc ks P L p k : Nat} {S : Nat → Int32} (hN : N ≤ 260) (h1 : post 1) (hp : p < P) (hk : k ≤ 4000) {u v : St2} (P8 : P ≤ 8) (hA : dp_X P L S u) (hB : dp_X P L S v) : wL_law_572 post N xs (nI k) (nI p) kc ks u.1 u.2.1 u.2.2.1 u.2.2.2.1 u.2.2.2.2.1 u.2.2.2.2.2.1 u.2.2.2.2.2.2.1 u.2.2.2.2.2.2.2.1 u.2.2.2.2.2.2.2.2.1 u.2.2.2.2.2.2.2.2.2.1 u.2.2.2.2.2.2.2.2.2.2.1 u.2.2.2.2.2.2.2.2.2.2.2.1 u.2.2.2.2.2.2.2.2.2.2.2.2.1 u.2.2.2.2.2.2.2.2.2.2.2.2.2.1 u.2.2.2.2.2.2.2.2.2.2.2.2.2.2.1 u.2.2.2.2.2.2.2.2.2.2.2.2.2.2.2.1 u.2.2.2.2.2.2.2.2.2.2.2.2.2.2.2.2.1 u.2.2.2.2.2.2.2.2.2.2.2.2.2.2.2.2.2.1 u.2.2.2.2.2.2.2.2.2.2.2.2.2.2.2.2.2.2.1 u.2.2.2.2.2.2.2.2.2.2.2.2.2.2.2.2.2.2.2.1 u.2.2.2.2.2.2.2.2.2.2.2.2.2.2.2.2.2.2.2.2 v.1 v.2.1 v.2.2.1 v.2.2.2.1 v.2.2.2.2.1 v.2.2.2.2.2.1 v.2.2.2.2.2.2.1 v.2.2.2.2.2.2.2.1 v.2.2.2.2.2.2.2.2.1 v.2.2.2.2.2.2.2.2.2.1 v.2.2.2.2.2.2.2.2.2.2.1 v.2.2.2.2.2.2.2.2.2.2.2.1 v.2.2.2.2.2.2.2.2.2.2.2.2.1 v.2.2.2.2.2.2.2.2.2.2.2.2.2.1 v.2.2.2.2.2.2.2.2.2.2.2.2.2.2.1 v.2.2.2.2.2.2.2.2.2.2.2.2.2.2.2.1 v.2.2.2.2.2.2.2.2.2.2.2.2.2.2.2.2.1 v.2.2.2.2.2.2.2.2.2.2.2.2.2.2.2.2.2.1 v.2.2.2.2.2.2.2.2.2.2.2.2.2.2.2.2.2.2.1 v.2.2.2.2.2.2.2.2.2.2.2.2.2.2.2.2.2.2.2.1 v.2.2.2.2.2.2.2.2.2.2.2.2.2.2.2.2.2.2.2.2 := by
  refine dp_check (p := p) (by omega) hA (fun r u' hA' cA => ?_)
  obtain ⟨xP, xC, xA, xL, xO, xQ, xS, xK, dA, aA, po, st, jm, pl, op, el, so, ip, va, ov, oc⟩ := u'
  refine br_c (fun z => dp_check (p := p) (by omega) hB (fun r' v' hB' cB => ?_)) (fun _ => h1)
  obtain ⟨xP', xC', xA', xL', xO', xQ', xS', xK', dA', aA', po', st', jm', pl', op', el', so', ip', va', ov', oc'⟩ := v'
  refine br_c (fun z' => ?_) (fun _ => h1)
  obtain ⟨lv, lc, gA⟩ := cA z
  obtain ⟨lv', lc', gB⟩ := cB z'
  have iA := dp_I_of hA' gA
  have iB := dp_I_of hB' gB
  have hl : ∀ x, lv x → x < 16 := by
    obtain ⟨_, _, e, _⟩ := gA
    rw [e]
    exact fun x hx => hx.1
  have hl4 : ∀ c, lc c → c < 4 := by
    obtain ⟨_, _, _, e, _⟩ := gA
    rw [e]
    exact fun x hx => hx.1
  have F : ds_F S (dp_Tg S L) L lv lc := gA.2.2.2.2
  exact ⟨6 + 1, dp_593 hN h1 hp hl hl4 F 6 0 k (fun _ => 0) (fun _ => 0) (xP, xC, xA, xL, xO, xQ, xS, xK, dA, aA, po, st, jm, pl, op, el, so, ip, va, ov, oc) (xP', xC', xA', xL', xO', xQ', xS', xK', dA', aA', po', st', jm', pl', op', el', so', ip', va', ov', oc') (by omega) (by omega) (fun _ _ => rfl) iA iB⟩
theorem dp_end10 : dl_ok 10 0 0 0 := Or.inr (Or.inr (Or.inr (Or.inr (Or.inr (Or.inl (Or.inr rfl))))))
theorem dp_526 {post : Int32 → Prop} {N : Nat} {xs : Nat → Int32} {kc ks P p k : Nat} (hN : N ≤ 260) (h1 : post 1) (hp : p < P) (hk : k ≤ 4000) (P8 : P ≤ 8) : ∀ (d i L : Nat) (S : Nat → Int32) (u v : St2), i + d = 9 → L ≤ 40 + i → dp_X P L S u → dp_X P L S v → wL_law_526 post N xs (nI k) (nI p) kc ks (d + 1) (nI i) u.1 u.2.1 u.2.2.1 u.2.2.2.1 u.2.2.2.2.1 u.2.2.2.2.2.1 u.2.2.2.2.2.2.1 u.2.2.2.2.2.2.2.1 u.2.2.2.2.2.2.2.2.1 u.2.2.2.2.2.2.2.2.2.1 u.2.2.2.2.2.2.2.2.2.2.1 u.2.2.2.2.2.2.2.2.2.2.2.1 u.2.2.2.2.2.2.2.2.2.2.2.2.1 u.2.2.2.2.2.2.2.2.2.2.2.2.2.1 u.2.2.2.2.2.2.2.2.2.2.2.2.2.2.1 u.2.2.2.2.2.2.2.2.2.2.2.2.2.2.2.1 u.2.2.2.2.2.2.2.2.2.2.2.2.2.2.2.2.1 u.2.2.2.2.2.2.2.2.2.2.2.2.2.2.2.2.2.1 u.2.2.2.2.2.2.2.2.2.2.2.2.2.2.2.2.2.2.1 u.2.2.2.2.2.2.2.2.2.2.2.2.2.2.2.2.2.2.2.1 u.2.2.2.2.2.2.2.2.2.2.2.2.2.2.2.2.2.2.2.2 v.1 v.2.1 v.2.2.1 v.2.2.2.1 v.2.2.2.2.1 v.2.2.2.2.2.1 v.2.2.2.2.2.2.1 v.2.2.2.2.2.2.2.1 v.2.2.2.2.2.2.2.2.1 v.2.2.2.2.2.2.2.2.2.1 v.2.2.2.2.2.2.2.2.2.2.1 v.2.2.2.2.2.2.2.2.2.2.2.1 v.2.2.2.2.2.2.2.2.2.2.2.2.1 v.2.2.2.2.2.2.2.2.2.2.2.2.2.1 v.2.2.2.2.2.2.2.2.2.2.2.2.2.2.1 v.2.2.2.2.2.2.2.2.2.2.2.2.2.2.2.1 v.2.2.2.2.2.2.2.2.2.2.2.2.2.2.2.2.1 v.2.2.2.2.2.2.2.2.2.2.2.2.2.2.2.2.2.1 v.2.2.2.2.2.2.2.2.2.2.2.2.2.2.2.2.2.2.1 v.2.2.2.2.2.2.2.2.2.2.2.2.2.2.2.2.2.2.2.1 v.2.2.2.2.2.2.2.2.2.2.2.2.2.2.2.2.2.2.2.2 := by
  intro d
  induction d with
  | zero =>
    intro i L S u v hd hL hA hB
    have e : i = 9 := by omega
    subst e
    exact br_t (nI_le (a := 9) (b := 9) (by omega) (by omega)) (dp_572 hN h1 hp hk P8 hA hB)
  | succ d ih =>
    intro i L S u v hd hL hA hB
    refine br_f (nI_ge (b := 9) (by omega) (by omega)) (dp_check (p := p) (by omega) hA (fun r u' hA' _ => ?_))
    obtain ⟨xP, xC, xA, xL, xO, xQ, xS, xK, dA, aA, po, st, jm, pl, op, el, so, ip, va, ov, oc⟩ := u'
    refine br_c (fun _ => dp_572 (u := (xP, xC, xA, xL, xO, xQ, xS, xK, dA, aA, po, st, jm, pl, op, el, so, ip, va, ov, oc)) hN h1 hp hk P8 hA' hB) (fun _ => dp_add hA' (by omega) dp_end10 (fun u2 hA2 => ?_))
    obtain ⟨xP1, xC1, xA1, xL1, xO1, xQ1, xS1, xK1, dA1, aA1, po1, st1, jm1, pl1, op1, el1, so1, ip1, va1, ov1, oc1⟩ := u2
    refine dp_add hB (by omega) dp_end10 (fun v2 hB2 => ?_)
    obtain ⟨xP', xC', xA', xL', xO', xQ', xS', xK', dA', aA', po', st', jm', pl', op', el', so', ip', va', ov', oc'⟩ := v2
    exact nm_r (nI_1 i) (ih (i + 1) (L + 1) _ (xP1, xC1, xA1, xL1, xO1, xQ1, xS1, xK1, dA1, aA1, po1, st1, jm1, pl1, op1, el1, so1, ip1, va1, ov1, oc1) (xP', xC', xA', xL', xO', xQ', xS', xK', dA', aA', po', st', jm', pl', op', el', so', ip', va', ov', oc') (by omega) (by omega) hA2 hB2)
theorem dp_466 {post : Int32 → Prop} {N : Nat} {xs : Nat → Int32} {J285 : Int32 → Int32 → Int32 → Int32 → Int32 → Int32 → Int32 → Int32 → Int32 → Int32 → (Nat → Int32) → (Nat → Int32) → (Nat → Int32) → (Nat → Int32) → (Nat → Int32) → (Nat → Int32) → (Nat → Int32) → (Nat → Int32) → (Nat → Int32) → (Nat → Int32) → (Nat → Int32) → (Nat → Int32) → (Nat → Int32) → Int32 → Int32 → Int32 → Int32 → Int32 → Int32 → Int32 → Int32 → (Nat → Int32) → (Nat → Int32) → (Nat → Int32) → (Nat → Int32) → (Nat → Int32) → (Nat → Int32) → (Nat → Int32) → (Nat → Int32) → (Nat → Int32) → (Nat → Int32) → (Nat → Int32) → (Nat → Int32) → (Nat → Int32) → Prop} {x2 x6 x9 : Int32} {kc ks P L i : Nat} {S : Nat → Int32} {v : St2} (hB : dp_X P L S v) (hL : L ≤ 64) (hJ : ∀ u', dp_X P L S u' → J285 x2 (nI (i + 1)) u'.1 u'.2.1 u'.2.2.1 u'.2.2.2.1 u'.2.2.2.2.1 u'.2.2.2.2.2.1 u'.2.2.2.2.2.2.1 u'.2.2.2.2.2.2.2.1 u'.2.2.2.2.2.2.2.2.1 u'.2.2.2.2.2.2.2.2.2.1 u'.2.2.2.2.2.2.2.2.2.2.1 u'.2.2.2.2.2.2.2.2.2.2.2.1 u'.2.2.2.2.2.2.2.2.2.2.2.2.1 u'.2.2.2.2.2.2.2.2.2.2.2.2.2.1 u'.2.2.2.2.2.2.2.2.2.2.2.2.2.2.1 u'.2.2.2.2.2.2.2.2.2.2.2.2.2.2.2.1 u'.2.2.2.2.2.2.2.2.2.2.2.2.2.2.2.2.1 u'.2.2.2.2.2.2.2.2.2.2.2.2.2.2.2.2.2.1 u'.2.2.2.2.2.2.2.2.2.2.2.2.2.2.2.2.2.2.1 u'.2.2.2.2.2.2.2.2.2.2.2.2.2.2.2.2.2.2.2.1 u'.2.2.2.2.2.2.2.2.2.2.2.2.2.2.2.2.2.2.2.2 v.1 v.2.1 v.2.2.1 v.2.2.2.1 v.2.2.2.2.1 v.2.2.2.2.2.1 v.2.2.2.2.2.2.1 v.2.2.2.2.2.2.2.1 v.2.2.2.2.2.2.2.2.1 v.2.2.2.2.2.2.2.2.2.1 v.2.2.2.2.2.2.2.2.2.2.1 v.2.2.2.2.2.2.2.2.2.2.2.1 v.2.2.2.2.2.2.2.2.2.2.2.2.1 v.2.2.2.2.2.2.2.2.2.2.2.2.2.1 v.2.2.2.2.2.2.2.2.2.2.2.2.2.2.1 v.2.2.2.2.2.2.2.2.2.2.2.2.2.2.2.1 v.2.2.2.2.2.2.2.2.2.2.2.2.2.2.2.2.1 v.2.2.2.2.2.2.2.2.2.2.2.2.2.2.2.2.2.1 v.2.2.2.2.2.2.2.2.2.2.2.2.2.2.2.2.2.2.1 v.2.2.2.2.2.2.2.2.2.2.2.2.2.2.2.2.2.2.2.1 v.2.2.2.2.2.2.2.2.2.2.2.2.2.2.2.2.2.2.2.2) : ∀ (d j : Nat) (u : St2), j + d = L → dp_X P j S u → wL_law_466 post N xs J285 x2 x6 x9 (nI i) (nI L) kc ks (d + 1) (nI j) u.1 u.2.1 u.2.2.1 u.2.2.2.1 u.2.2.2.2.1 u.2.2.2.2.2.1 u.2.2.2.2.2.2.1 u.2.2.2.2.2.2.2.1 u.2.2.2.2.2.2.2.2.1 u.2.2.2.2.2.2.2.2.2.1 u.2.2.2.2.2.2.2.2.2.2.1 u.2.2.2.2.2.2.2.2.2.2.2.1 u.2.2.2.2.2.2.2.2.2.2.2.2.1 u.2.2.2.2.2.2.2.2.2.2.2.2.2.1 u.2.2.2.2.2.2.2.2.2.2.2.2.2.2.1 u.2.2.2.2.2.2.2.2.2.2.2.2.2.2.2.1 u.2.2.2.2.2.2.2.2.2.2.2.2.2.2.2.2.1 u.2.2.2.2.2.2.2.2.2.2.2.2.2.2.2.2.2.1 u.2.2.2.2.2.2.2.2.2.2.2.2.2.2.2.2.2.2.1 u.2.2.2.2.2.2.2.2.2.2.2.2.2.2.2.2.2.2.2.1 u.2.2.2.2.2.2.2.2.2.2.2.2.2.2.2.2.2.2.2.2 v.1 v.2.1 v.2.2.1 v.2.2.2.1 v.2.2.2.2.1 v.2.2.2.2.2.1 v.2.2.2.2.2.2.1 v.2.2.2.2.2.2.2.1 v.2.2.2.2.2.2.2.2.1 v.2.2.2.2.2.2.2.2.2.1 v.2.2.2.2.2.2.2.2.2.2.1 v.2.2.2.2.2.2.2.2.2.2.2.1 v.2.2.2.2.2.2.2.2.2.2.2.2.1 v.2.2.2.2.2.2.2.2.2.2.2.2.2.1 v.2.2.2.2.2.2.2.2.2.2.2.2.2.2.1 v.2.2.2.2.2.2.2.2.2.2.2.2.2.2.2.1 v.2.2.2.2.2.2.2.2.2.2.2.2.2.2.2.2.1 v.2.2.2.2.2.2.2.2.2.2.2.2.2.2.2.2.2.1 v.2.2.2.2.2.2.2.2.2.2.2.2.2.2.2.2.2.2.1 v.2.2.2.2.2.2.2.2.2.2.2.2.2.2.2.2.2.2.2.1 v.2.2.2.2.2.2.2.2.2.2.2.2.2.2.2.2.2.2.2.2 := by
  intro d
  induction d with
  | zero =>
    intro j u hd hA
    have e : j = L := by omega
    subst e
    exact br_t (nI_le (Nat.le_refl _) (by omega)) (nm_r (nI_1 i) (hJ u hA))
  | succ d ih =>
    intro j u hd hA
    have hj : j < L := by omega
    have okj : dp_ok (S (j * 4 + 0)) (S (j * 4 + 1)) (S (j * 4 + 2)) (S (j * 4 + 3)) := by
      obtain ⟨xP, xC, xA, xL, xO, xQ, xS, xK, dA, aA, po, st, jm, pl, op, el, so, ip, va, ov, oc⟩ := v
      exact hB.2.2.2.2.2.2.2.2 j hj
    obtain ⟨ok, n1, n2, n3⟩ := dp_ok_n okj
    refine br_f (nI_ge hj (by omega)) (dp_get (f := 0) hB hj (by omega) (dp_get (f := 1) hB hj (by omega) (dp_get (f := 2) hB hj (by omega) (dp_get (f := 3) hB hj (by omega) (dp_add hA (by omega) ok (fun u' hA' => ?_))))))
    obtain ⟨xP1, xC1, xA1, xL1, xO1, xQ1, xS1, xK1, dA1, aA1, po1, st1, jm1, pl1, op1, el1, so1, ip1, va1, ov1, oc1⟩ := u'
    refine nm_r (nI_1 j) (ih (j + 1) (xP1, xC1, xA1, xL1, xO1, xQ1, xS1, xK1, dA1, aA1, po1, st1, jm1, pl1, op1, el1, so1, ip1, va1, ov1, oc1) (by omega) (dp_X_c hA' (fun x hx => ?_)))
    rw [n1, n2, n3]
    obtain ⟨t0, t1, t2, t3⟩ := dl_w0 S j (S (j * 4 + 0)) (S (j * 4 + 1)) (S (j * 4 + 2)) (S (j * 4 + 3))
    rcases Nat.lt_or_ge x (j * 4) with z | z
    · exact dl_w1 z
    · have e : x = j * 4 ∨ x = j * 4 + 1 ∨ x = j * 4 + 2 ∨ x = j * 4 + 3 := by omega
      rcases e with e | e | e | e <;> subst e
      · exact t0
      · exact t1
      · exact t2
      · exact t3
theorem dp_381 {post : Int32 → Prop} {N : Nat} {xs : Nat → Int32} {J285 : Int32 → Int32 → Int32 → Int32 → Int32 → Int32 → Int32 → Int32 → Int32 → Int32 → (Nat → Int32) → (Nat → Int32) → (Nat → Int32) → (Nat → Int32) → (Nat → Int32) → (Nat → Int32) → (Nat → Int32) → (Nat → Int32) → (Nat → Int32) → (Nat → Int32) → (Nat → Int32) → (Nat → Int32) → (Nat → Int32) → Int32 → Int32 → Int32 → Int32 → Int32 → Int32 → Int32 → Int32 → (Nat → Int32) → (Nat → Int32) → (Nat → Int32) → (Nat → Int32) → (Nat → Int32) → (Nat → Int32) → (Nat → Int32) → (Nat → Int32) → (Nat → Int32) → (Nat → Int32) → (Nat → Int32) → (Nat → Int32) → (Nat → Int32) → Prop} {x2 x6 x9 x11 x12 x13 x14 : Int32} {kc ks P L i : Nat} {S : Nat → Int32} {u v : St2} (hA : dp_X P L S u) (hB : dp_X P L S v) (P8 : P ≤ 8) (hL : L < 64) (ok : dl_ok x11 x12 x13 x14) (hJ : ∀ (L' : Nat) (S' : Nat → Int32) (u' v' : St2), L' ≤ L + 1 → dp_X P L' S' u' → dp_X P L' S' v' → J285 x2 (nI (i + 1)) u'.1 u'.2.1 u'.2.2.1 u'.2.2.2.1 u'.2.2.2.2.1 u'.2.2.2.2.2.1 u'.2.2.2.2.2.2.1 u'.2.2.2.2.2.2.2.1 u'.2.2.2.2.2.2.2.2.1 u'.2.2.2.2.2.2.2.2.2.1 u'.2.2.2.2.2.2.2.2.2.2.1 u'.2.2.2.2.2.2.2.2.2.2.2.1 u'.2.2.2.2.2.2.2.2.2.2.2.2.1 u'.2.2.2.2.2.2.2.2.2.2.2.2.2.1 u'.2.2.2.2.2.2.2.2.2.2.2.2.2.2.1 u'.2.2.2.2.2.2.2.2.2.2.2.2.2.2.2.1 u'.2.2.2.2.2.2.2.2.2.2.2.2.2.2.2.2.1 u'.2.2.2.2.2.2.2.2.2.2.2.2.2.2.2.2.2.1 u'.2.2.2.2.2.2.2.2.2.2.2.2.2.2.2.2.2.2.1 u'.2.2.2.2.2.2.2.2.2.2.2.2.2.2.2.2.2.2.2.1 u'.2.2.2.2.2.2.2.2.2.2.2.2.2.2.2.2.2.2.2.2 v'.1 v'.2.1 v'.2.2.1 v'.2.2.2.1 v'.2.2.2.2.1 v'.2.2.2.2.2.1 v'.2.2.2.2.2.2.1 v'.2.2.2.2.2.2.2.1 v'.2.2.2.2.2.2.2.2.1 v'.2.2.2.2.2.2.2.2.2.1 v'.2.2.2.2.2.2.2.2.2.2.1 v'.2.2.2.2.2.2.2.2.2.2.2.1 v'.2.2.2.2.2.2.2.2.2.2.2.2.1 v'.2.2.2.2.2.2.2.2.2.2.2.2.2.1 v'.2.2.2.2.2.2.2.2.2.2.2.2.2.2.1 v'.2.2.2.2.2.2.2.2.2.2.2.2.2.2.2.1 v'.2.2.2.2.2.2.2.2.2.2.2.2.2.2.2.2.1 v'.2.2.2.2.2.2.2.2.2.2.2.2.2.2.2.2.2.1 v'.2.2.2.2.2.2.2.2.2.2.2.2.2.2.2.2.2.2.1 v'.2.2.2.2.2.2.2.2.2.2.2.2.2.2.2.2.2.2.2.1 v'.2.2.2.2.2.2.2.2.2.2.2.2.2.2.2.2.2.2.2.2) : wL_law_381 post N xs J285 x2 x6 x9 (nI i) x11 x12 x13 x14 kc ks u.1 u.2.1 u.2.2.1 u.2.2.2.1 u.2.2.2.2.1 u.2.2.2.2.2.1 u.2.2.2.2.2.2.1 u.2.2.2.2.2.2.2.1 u.2.2.2.2.2.2.2.2.1 u.2.2.2.2.2.2.2.2.2.1 u.2.2.2.2.2.2.2.2.2.2.1 u.2.2.2.2.2.2.2.2.2.2.2.1 u.2.2.2.2.2.2.2.2.2.2.2.2.1 u.2.2.2.2.2.2.2.2.2.2.2.2.2.1 u.2.2.2.2.2.2.2.2.2.2.2.2.2.2.1 u.2.2.2.2.2.2.2.2.2.2.2.2.2.2.2.1 u.2.2.2.2.2.2.2.2.2.2.2.2.2.2.2.2.1 u.2.2.2.2.2.2.2.2.2.2.2.2.2.2.2.2.2.1 u.2.2.2.2.2.2.2.2.2.2.2.2.2.2.2.2.2.2.1 u.2.2.2.2.2.2.2.2.2.2.2.2.2.2.2.2.2.2.2.1 u.2.2.2.2.2.2.2.2.2.2.2.2.2.2.2.2.2.2.2.2 v.1 v.2.1 v.2.2.1 v.2.2.2.1 v.2.2.2.2.1 v.2.2.2.2.2.1 v.2.2.2.2.2.2.1 v.2.2.2.2.2.2.2.1 v.2.2.2.2.2.2.2.2.1 v.2.2.2.2.2.2.2.2.2.1 v.2.2.2.2.2.2.2.2.2.2.1 v.2.2.2.2.2.2.2.2.2.2.2.1 v.2.2.2.2.2.2.2.2.2.2.2.2.1 v.2.2.2.2.2.2.2.2.2.2.2.2.2.1 v.2.2.2.2.2.2.2.2.2.2.2.2.2.2.1 v.2.2.2.2.2.2.2.2.2.2.2.2.2.2.2.1 v.2.2.2.2.2.2.2.2.2.2.2.2.2.2.2.2.1 v.2.2.2.2.2.2.2.2.2.2.2.2.2.2.2.2.2.1 v.2.2.2.2.2.2.2.2.2.2.2.2.2.2.2.2.2.2.1 v.2.2.2.2.2.2.2.2.2.2.2.2.2.2.2.2.2.2.2.1 v.2.2.2.2.2.2.2.2.2.2.2.2.2.2.2.2.2.2.2.2 := by
  refine dp_add hA hL ok (fun u1 hA1 => ?_)
  obtain ⟨xP, xC, xA, xL, xO, xQ, xS, xK, dA, aA, po, st, jm, pl, op, el, so, ip, va, ov, oc⟩ := u1
  refine br_t (nI_pos' (by omega)) (dp_len hA1 (dp_check (p := 0) (by omega) hA1 (fun r u2 hA2 _ => ?_)))
  obtain ⟨xP1, xC1, xA1, xL1, xO1, xQ1, xS1, xK1, dA1, aA1, po1, st1, jm1, pl1, op1, el1, so1, ip1, va1, ov1, oc1⟩ := u2
  have fin : wL_law_432 post N xs J285 x2 x6 x9 (nI i) x11 x12 x13 x14 kc ks xP1 xC1 xA1 xL1 xO1 xQ1 xS1 xK1 dA1 aA1 po1 st1 jm1 pl1 op1 el1 so1 ip1 va1 ov1 oc1 v.1 v.2.1 v.2.2.1 v.2.2.2.1 v.2.2.2.2.1 v.2.2.2.2.2.1 v.2.2.2.2.2.2.1 v.2.2.2.2.2.2.2.1 v.2.2.2.2.2.2.2.2.1 v.2.2.2.2.2.2.2.2.2.1 v.2.2.2.2.2.2.2.2.2.2.1 v.2.2.2.2.2.2.2.2.2.2.2.1 v.2.2.2.2.2.2.2.2.2.2.2.2.1 v.2.2.2.2.2.2.2.2.2.2.2.2.2.1 v.2.2.2.2.2.2.2.2.2.2.2.2.2.2.1 v.2.2.2.2.2.2.2.2.2.2.2.2.2.2.2.1 v.2.2.2.2.2.2.2.2.2.2.2.2.2.2.2.2.1 v.2.2.2.2.2.2.2.2.2.2.2.2.2.2.2.2.2.1 v.2.2.2.2.2.2.2.2.2.2.2.2.2.2.2.2.2.2.1 v.2.2.2.2.2.2.2.2.2.2.2.2.2.2.2.2.2.2.2.1 v.2.2.2.2.2.2.2.2.2.2.2.2.2.2.2.2.2.2.2.2 := by
    refine dp_add hB hL ok (fun v1 hB1 => ?_)
    obtain ⟨xP', xC', xA', xL', xO', xQ', xS', xK', dA', aA', po', st', jm', pl', op', el', so', ip', va', ov', oc'⟩ := v1
    exact nm_r (nI_1 i) (hJ _ _ (xP1, xC1, xA1, xL1, xO1, xQ1, xS1, xK1, dA1, aA1, po1, st1, jm1, pl1, op1, el1, so1, ip1, va1, ov1, oc1) (xP', xC', xA', xL', xO', xQ', xS', xK', dA', aA', po', st', jm', pl', op', el', so', ip', va', ov', oc') (Nat.le_refl _) hA2 hB1)
  refine br_c (fun _ => fin) (fun _ => br_c (fun _ => fin) (fun _ => dp_clear hA2 (fun u3 hA3 => ?_)))
  obtain ⟨xP2, xC2, xA2, xL2, xO2, xQ2, xS2, xK2, dA2, aA2, po2, st2, jm2, pl2, op2, el2, so2, ip2, va2, ov2, oc2⟩ := u3
  have hA4 : dp_X P 0 S (xP2, xC2, xA2, xL2, xO2, xQ2, xS2, xK2, dA2, aA2, po2, st2, jm2, pl2, op2, el2, so2, ip2, va2, ov2, oc2) := dp_X_c hA3 (fun x hx => absurd hx (by omega))
  exact dp_len hB ⟨L + 1, dp_466 hB (by omega) (fun u' hu' => hJ L S u' v (by omega) hu' hB) L 0 (xP2, xC2, xA2, xL2, xO2, xQ2, xS2, xK2, dA2, aA2, po2, st2, jm2, pl2, op2, el2, so2, ip2, va2, ov2, oc2) (by omega) hA4⟩
theorem dp_369 {post : Int32 → Prop} {N : Nat} {xs : Nat → Int32} {J285 : Int32 → Int32 → Int32 → Int32 → Int32 → Int32 → Int32 → Int32 → Int32 → Int32 → (Nat → Int32) → (Nat → Int32) → (Nat → Int32) → (Nat → Int32) → (Nat → Int32) → (Nat → Int32) → (Nat → Int32) → (Nat → Int32) → (Nat → Int32) → (Nat → Int32) → (Nat → Int32) → (Nat → Int32) → (Nat → Int32) → Int32 → Int32 → Int32 → Int32 → Int32 → Int32 → Int32 → Int32 → (Nat → Int32) → (Nat → Int32) → (Nat → Int32) → (Nat → Int32) → (Nat → Int32) → (Nat → Int32) → (Nat → Int32) → (Nat → Int32) → (Nat → Int32) → (Nat → Int32) → (Nat → Int32) → (Nat → Int32) → (Nat → Int32) → Prop} {x2 x6 x9 : Int32} {kc ks P L i k a b c : Nat} {S : Nat → Int32} {u v : St2} (hA : dp_X P L S u) (hB : dp_X P L S v) (P8 : P ≤ 8) (hL : L < 64) (k1 : 1 ≤ k) (k13 : k ≤ 13) (ha : a < 6) (hb : b < 6) (hc : c < 6) (h12 : k = 12 → a < 4) (hJ : ∀ (L' : Nat) (S' : Nat → Int32) (u' v' : St2), L' ≤ L + 1 → dp_X P L' S' u' → dp_X P L' S' v' → J285 x2 (nI (i + 1)) u'.1 u'.2.1 u'.2.2.1 u'.2.2.2.1 u'.2.2.2.2.1 u'.2.2.2.2.2.1 u'.2.2.2.2.2.2.1 u'.2.2.2.2.2.2.2.1 u'.2.2.2.2.2.2.2.2.1 u'.2.2.2.2.2.2.2.2.2.1 u'.2.2.2.2.2.2.2.2.2.2.1 u'.2.2.2.2.2.2.2.2.2.2.2.1 u'.2.2.2.2.2.2.2.2.2.2.2.2.1 u'.2.2.2.2.2.2.2.2.2.2.2.2.2.1 u'.2.2.2.2.2.2.2.2.2.2.2.2.2.2.1 u'.2.2.2.2.2.2.2.2.2.2.2.2.2.2.2.1 u'.2.2.2.2.2.2.2.2.2.2.2.2.2.2.2.2.1 u'.2.2.2.2.2.2.2.2.2.2.2.2.2.2.2.2.2.1 u'.2.2.2.2.2.2.2.2.2.2.2.2.2.2.2.2.2.2.1 u'.2.2.2.2.2.2.2.2.2.2.2.2.2.2.2.2.2.2.2.1 u'.2.2.2.2.2.2.2.2.2.2.2.2.2.2.2.2.2.2.2.2 v'.1 v'.2.1 v'.2.2.1 v'.2.2.2.1 v'.2.2.2.2.1 v'.2.2.2.2.2.1 v'.2.2.2.2.2.2.1 v'.2.2.2.2.2.2.2.1 v'.2.2.2.2.2.2.2.2.1 v'.2.2.2.2.2.2.2.2.2.1 v'.2.2.2.2.2.2.2.2.2.2.1 v'.2.2.2.2.2.2.2.2.2.2.2.1 v'.2.2.2.2.2.2.2.2.2.2.2.2.1 v'.2.2.2.2.2.2.2.2.2.2.2.2.2.1 v'.2.2.2.2.2.2.2.2.2.2.2.2.2.2.1 v'.2.2.2.2.2.2.2.2.2.2.2.2.2.2.2.1 v'.2.2.2.2.2.2.2.2.2.2.2.2.2.2.2.2.1 v'.2.2.2.2.2.2.2.2.2.2.2.2.2.2.2.2.2.1 v'.2.2.2.2.2.2.2.2.2.2.2.2.2.2.2.2.2.2.1 v'.2.2.2.2.2.2.2.2.2.2.2.2.2.2.2.2.2.2.2.1 v'.2.2.2.2.2.2.2.2.2.2.2.2.2.2.2.2.2.2.2.2) : wL_law_369 post N xs J285 x2 x6 x9 (nI i) (nI k) (nI a) (nI b) (nI c) kc ks u.1 u.2.1 u.2.2.1 u.2.2.2.1 u.2.2.2.2.1 u.2.2.2.2.2.1 u.2.2.2.2.2.2.1 u.2.2.2.2.2.2.2.1 u.2.2.2.2.2.2.2.2.1 u.2.2.2.2.2.2.2.2.2.1 u.2.2.2.2.2.2.2.2.2.2.1 u.2.2.2.2.2.2.2.2.2.2.2.1 u.2.2.2.2.2.2.2.2.2.2.2.2.1 u.2.2.2.2.2.2.2.2.2.2.2.2.2.1 u.2.2.2.2.2.2.2.2.2.2.2.2.2.2.1 u.2.2.2.2.2.2.2.2.2.2.2.2.2.2.2.1 u.2.2.2.2.2.2.2.2.2.2.2.2.2.2.2.2.1 u.2.2.2.2.2.2.2.2.2.2.2.2.2.2.2.2.2.1 u.2.2.2.2.2.2.2.2.2.2.2.2.2.2.2.2.2.2.1 u.2.2.2.2.2.2.2.2.2.2.2.2.2.2.2.2.2.2.2.1 u.2.2.2.2.2.2.2.2.2.2.2.2.2.2.2.2.2.2.2.2 v.1 v.2.1 v.2.2.1 v.2.2.2.1 v.2.2.2.2.1 v.2.2.2.2.2.1 v.2.2.2.2.2.2.1 v.2.2.2.2.2.2.2.1 v.2.2.2.2.2.2.2.2.1 v.2.2.2.2.2.2.2.2.2.1 v.2.2.2.2.2.2.2.2.2.2.1 v.2.2.2.2.2.2.2.2.2.2.2.1 v.2.2.2.2.2.2.2.2.2.2.2.2.1 v.2.2.2.2.2.2.2.2.2.2.2.2.2.1 v.2.2.2.2.2.2.2.2.2.2.2.2.2.2.1 v.2.2.2.2.2.2.2.2.2.2.2.2.2.2.2.1 v.2.2.2.2.2.2.2.2.2.2.2.2.2.2.2.2.1 v.2.2.2.2.2.2.2.2.2.2.2.2.2.2.2.2.2.1 v.2.2.2.2.2.2.2.2.2.2.2.2.2.2.2.2.2.2.1 v.2.2.2.2.2.2.2.2.2.2.2.2.2.2.2.2.2.2.2.1 v.2.2.2.2.2.2.2.2.2.2.2.2.2.2.2.2.2.2.2.2 := by
  have va : dl_v (nI a) := ⟨a, by omega, rfl⟩
  have vb : dl_v (nI b) := ⟨b, by omega, rfl⟩
  have vc : dl_v (nI c) := ⟨c, by omega, rfl⟩
  have e : k = 1 ∨ k = 2 ∨ k = 3 ∨ k = 4 ∨ k = 5 ∨ k = 6 ∨ k = 7 ∨ k = 8 ∨ k = 9 ∨ k = 10 ∨ k = 11 ∨ k = 12 ∨ k = 13 := by omega
  rcases e with e | e | e | e | e | e | e | e | e | e | e | e | e <;> subst e
  · exact br_t rfl (nm_e (dp_381 hA hB P8 hL (Or.inl ⟨rfl, va⟩) hJ))
  · exact br_f (by decide) (dp_381 hA hB P8 hL (Or.inr (Or.inl ⟨rfl, va, vb⟩)) hJ)
  · exact br_f (by decide) (dp_381 hA hB P8 hL (Or.inr (Or.inr (Or.inr (Or.inl ⟨Or.inl rfl, va, vb, vc⟩)))) hJ)
  · exact br_f (by decide) (dp_381 hA hB P8 hL (Or.inr (Or.inr (Or.inr (Or.inl ⟨Or.inr (Or.inl rfl), va, vb, vc⟩)))) hJ)
  · exact br_f (by decide) (dp_381 hA hB P8 hL (Or.inr (Or.inr (Or.inr (Or.inl ⟨Or.inr (Or.inr (Or.inl rfl)), va, vb, vc⟩)))) hJ)
  · exact br_f (by decide) (dp_381 hA hB P8 hL (Or.inr (Or.inr (Or.inr (Or.inl ⟨Or.inr (Or.inr (Or.inr (Or.inl rfl))), va, vb, vc⟩)))) hJ)
  · exact br_f (by decide) (dp_381 hA hB P8 hL (Or.inr (Or.inr (Or.inr (Or.inl ⟨Or.inr (Or.inr (Or.inr (Or.inr rfl))), va, vb, vc⟩)))) hJ)
  · exact br_f (by decide) (dp_381 hA hB P8 hL (Or.inr (Or.inr (Or.inr (Or.inr (Or.inl ⟨Or.inl rfl, va⟩))))) hJ)
  · exact br_f (by decide) (dp_381 hA hB P8 hL (Or.inr (Or.inr (Or.inr (Or.inr (Or.inr (Or.inl (Or.inl rfl))))))) hJ)
  · exact br_f (by decide) (dp_381 hA hB P8 hL (Or.inr (Or.inr (Or.inr (Or.inr (Or.inr (Or.inl (Or.inr rfl))))))) hJ)
  · exact br_f (by decide) (dp_381 hA hB P8 hL (Or.inr (Or.inr (Or.inr (Or.inr (Or.inl ⟨Or.inr rfl, va⟩))))) hJ)
  · exact br_f (by decide) (dp_381 hA hB P8 hL (Or.inr (Or.inr (Or.inr (Or.inr (Or.inr (Or.inr ⟨rfl, ⟨a, h12 rfl, rfl⟩, vb⟩)))))) hJ)
  · exact br_f (by decide) (dp_381 hA hB P8 hL (Or.inr (Or.inr (Or.inl ⟨rfl, va, vb⟩))) hJ)
theorem dp_285 {post : Int32 → Prop} {N : Nat} {xs : Nat → Int32} {kc ks P p ns : Nat} (hN : N ≤ 260) (h1 : post 1) (hp : p < P) (P8 : P ≤ 8) (hns : ns < 32) : ∀ (d i k L : Nat) (S : Nat → Int32) (u v : St2), i + d = ns → k ≤ 3000 + 10 * i → L ≤ i → dp_X P L S u → dp_X P L S v → wL_law_285 post N xs (nI p) (nI ns) kc ks (d + 1) (nI k) (nI i) u.1 u.2.1 u.2.2.1 u.2.2.2.1 u.2.2.2.2.1 u.2.2.2.2.2.1 u.2.2.2.2.2.2.1 u.2.2.2.2.2.2.2.1 u.2.2.2.2.2.2.2.2.1 u.2.2.2.2.2.2.2.2.2.1 u.2.2.2.2.2.2.2.2.2.2.1 u.2.2.2.2.2.2.2.2.2.2.2.1 u.2.2.2.2.2.2.2.2.2.2.2.2.1 u.2.2.2.2.2.2.2.2.2.2.2.2.2.1 u.2.2.2.2.2.2.2.2.2.2.2.2.2.2.1 u.2.2.2.2.2.2.2.2.2.2.2.2.2.2.2.1 u.2.2.2.2.2.2.2.2.2.2.2.2.2.2.2.2.1 u.2.2.2.2.2.2.2.2.2.2.2.2.2.2.2.2.2.1 u.2.2.2.2.2.2.2.2.2.2.2.2.2.2.2.2.2.2.1 u.2.2.2.2.2.2.2.2.2.2.2.2.2.2.2.2.2.2.2.1 u.2.2.2.2.2.2.2.2.2.2.2.2.2.2.2.2.2.2.2.2 v.1 v.2.1 v.2.2.1 v.2.2.2.1 v.2.2.2.2.1 v.2.2.2.2.2.1 v.2.2.2.2.2.2.1 v.2.2.2.2.2.2.2.1 v.2.2.2.2.2.2.2.2.1 v.2.2.2.2.2.2.2.2.2.1 v.2.2.2.2.2.2.2.2.2.2.1 v.2.2.2.2.2.2.2.2.2.2.2.1 v.2.2.2.2.2.2.2.2.2.2.2.2.1 v.2.2.2.2.2.2.2.2.2.2.2.2.2.1 v.2.2.2.2.2.2.2.2.2.2.2.2.2.2.1 v.2.2.2.2.2.2.2.2.2.2.2.2.2.2.2.1 v.2.2.2.2.2.2.2.2.2.2.2.2.2.2.2.2.1 v.2.2.2.2.2.2.2.2.2.2.2.2.2.2.2.2.2.1 v.2.2.2.2.2.2.2.2.2.2.2.2.2.2.2.2.2.2.1 v.2.2.2.2.2.2.2.2.2.2.2.2.2.2.2.2.2.2.2.1 v.2.2.2.2.2.2.2.2.2.2.2.2.2.2.2.2.2.2.2.2 := by
  intro d
  induction d with
  | zero =>
    intro i k L S u v hd hk hL hA hB
    have e : i = ns := by omega
    subst e
    exact br_t (nI_le (Nat.le_refl _) (by omega)) ⟨9 + 1, dp_526 hN h1 hp (by omega) P8 9 0 L S u v (by omega) (by omega) hA hB⟩
  | succ d ih =>
    intro i k L S u v hd hk hL hA hB
    refine br_f (nI_ge (by omega) (by omega)) (nm_r (nI_1 k) (dp_cell hN (by omega) (fun _ => dp_m 13 (by omega) (by omega) (fun r hr => nm_r (show (1 : Int32) + nI r = nI (1 + r) from nI_add 1 r) (nm_r (nI_1 (k + 1)) (dp_cell hN (by omega) (fun _ => dp_m 6 (by omega) (by omega) (fun a ha => nm_r (nI_1 (k + 2)) (dp_cell hN (by omega) (fun _ => dp_m 6 (by omega) (by omega) (fun b hb => nm_r (nI_1 (k + 3)) (dp_cell hN (by omega) (fun _ => dp_m 6 (by omega) (by omega) (fun c hc => ?_))))))))))))))
    have hJ : ∀ (L' : Nat) (S' : Nat → Int32) (u' v' : St2), L' ≤ L + 1 → dp_X P L' S' u' → dp_X P L' S' v' → wL_law_285 post N xs (nI p) (nI ns) kc ks (d + 1) (nI (k + 4)) (nI (i + 1)) u'.1 u'.2.1 u'.2.2.1 u'.2.2.2.1 u'.2.2.2.2.1 u'.2.2.2.2.2.1 u'.2.2.2.2.2.2.1 u'.2.2.2.2.2.2.2.1 u'.2.2.2.2.2.2.2.2.1 u'.2.2.2.2.2.2.2.2.2.1 u'.2.2.2.2.2.2.2.2.2.2.1 u'.2.2.2.2.2.2.2.2.2.2.2.1 u'.2.2.2.2.2.2.2.2.2.2.2.2.1 u'.2.2.2.2.2.2.2.2.2.2.2.2.2.1 u'.2.2.2.2.2.2.2.2.2.2.2.2.2.2.1 u'.2.2.2.2.2.2.2.2.2.2.2.2.2.2.2.1 u'.2.2.2.2.2.2.2.2.2.2.2.2.2.2.2.2.1 u'.2.2.2.2.2.2.2.2.2.2.2.2.2.2.2.2.2.1 u'.2.2.2.2.2.2.2.2.2.2.2.2.2.2.2.2.2.2.1 u'.2.2.2.2.2.2.2.2.2.2.2.2.2.2.2.2.2.2.2.1 u'.2.2.2.2.2.2.2.2.2.2.2.2.2.2.2.2.2.2.2.2 v'.1 v'.2.1 v'.2.2.1 v'.2.2.2.1 v'.2.2.2.2.1 v'.2.2.2.2.2.1 v'.2.2.2.2.2.2.1 v'.2.2.2.2.2.2.2.1 v'.2.2.2.2.2.2.2.2.1 v'.2.2.2.2.2.2.2.2.2.1 v'.2.2.2.2.2.2.2.2.2.2.1 v'.2.2.2.2.2.2.2.2.2.2.2.1 v'.2.2.2.2.2.2.2.2.2.2.2.2.1 v'.2.2.2.2.2.2.2.2.2.2.2.2.2.1 v'.2.2.2.2.2.2.2.2.2.2.2.2.2.2.1 v'.2.2.2.2.2.2.2.2.2.2.2.2.2.2.2.1 v'.2.2.2.2.2.2.2.2.2.2.2.2.2.2.2.2.1 v'.2.2.2.2.2.2.2.2.2.2.2.2.2.2.2.2.2.1 v'.2.2.2.2.2.2.2.2.2.2.2.2.2.2.2.2.2.2.1 v'.2.2.2.2.2.2.2.2.2.2.2.2.2.2.2.2.2.2.2.1 v'.2.2.2.2.2.2.2.2.2.2.2.2.2.2.2.2.2.2.2.2 := fun L' S' u' v' hL' hA' hB' => ih (i + 1) (k + 4) L' S' u' v' (by omega) (by omega) (by omega) hA' hB'
    refine br_c (fun z => dp_m 4 (by omega) (by omega) (fun a' ha' => ?_)) (fun z => ?_)
    · exact dp_369 hA hB P8 (by omega) (by omega) (by omega) (by omega) hb hc (fun _ => ha') hJ
    · refine dp_369 hA hB P8 (by omega) (by omega) (by omega) ha hb hc (fun e => absurd ?_ z) hJ
      rw [e]
      rfl
theorem dp_shne : ∀ P, P ≤ 8 → ¬ ((1 : Int32) <<< (nI P &&& 31)) + 1 = 0 := by
  intro P hP
  exact (by decide +kernel : ∀ P : Fin 9, ¬ ((1 : Int32) <<< (nI P.val &&& 31)) + 1 = 0) ⟨P, by omega⟩
theorem dp_162 {post : Int32 → Prop} {N : Nat} {xs : Nat → Int32} {kc ks P p np : Nat} (hN : N ≤ 260) (h1 : post 1) (hp : p < P) (P8 : P ≤ 8) (hnp : np < 16) : ∀ (d i k : Nat) (u v : St2), i + d = np → k ≤ 2000 + 10 * i → dp_X P 0 (fun _ => 0) u → dp_X P 0 (fun _ => 0) v → wL_law_162 post N xs (nI P) (nI p) (nI np) kc ks (d + 1) (nI k) (nI i) u.1 u.2.1 u.2.2.1 u.2.2.2.1 u.2.2.2.2.1 u.2.2.2.2.2.1 u.2.2.2.2.2.2.1 u.2.2.2.2.2.2.2.1 u.2.2.2.2.2.2.2.2.1 u.2.2.2.2.2.2.2.2.2.1 u.2.2.2.2.2.2.2.2.2.2.1 u.2.2.2.2.2.2.2.2.2.2.2.1 u.2.2.2.2.2.2.2.2.2.2.2.2.1 u.2.2.2.2.2.2.2.2.2.2.2.2.2.1 u.2.2.2.2.2.2.2.2.2.2.2.2.2.2.1 u.2.2.2.2.2.2.2.2.2.2.2.2.2.2.2.1 u.2.2.2.2.2.2.2.2.2.2.2.2.2.2.2.2.1 u.2.2.2.2.2.2.2.2.2.2.2.2.2.2.2.2.2.1 u.2.2.2.2.2.2.2.2.2.2.2.2.2.2.2.2.2.2.1 u.2.2.2.2.2.2.2.2.2.2.2.2.2.2.2.2.2.2.2.1 u.2.2.2.2.2.2.2.2.2.2.2.2.2.2.2.2.2.2.2.2 v.1 v.2.1 v.2.2.1 v.2.2.2.1 v.2.2.2.2.1 v.2.2.2.2.2.1 v.2.2.2.2.2.2.1 v.2.2.2.2.2.2.2.1 v.2.2.2.2.2.2.2.2.1 v.2.2.2.2.2.2.2.2.2.1 v.2.2.2.2.2.2.2.2.2.2.1 v.2.2.2.2.2.2.2.2.2.2.2.1 v.2.2.2.2.2.2.2.2.2.2.2.2.1 v.2.2.2.2.2.2.2.2.2.2.2.2.2.1 v.2.2.2.2.2.2.2.2.2.2.2.2.2.2.1 v.2.2.2.2.2.2.2.2.2.2.2.2.2.2.2.1 v.2.2.2.2.2.2.2.2.2.2.2.2.2.2.2.2.1 v.2.2.2.2.2.2.2.2.2.2.2.2.2.2.2.2.2.1 v.2.2.2.2.2.2.2.2.2.2.2.2.2.2.2.2.2.2.1 v.2.2.2.2.2.2.2.2.2.2.2.2.2.2.2.2.2.2.2.1 v.2.2.2.2.2.2.2.2.2.2.2.2.2.2.2.2.2.2.2.2 := by
  intro d
  induction d with
  | zero =>
    intro i k u v hd hk hA hB
    have e : i = np := by omega
    subst e
    exact br_t (nI_le (Nat.le_refl _) (by omega)) (nm_r (nI_1 k) (dp_cell hN (by omega) (fun _ => dp_m 32 (by omega) (by omega) (fun ns hns => ⟨ns + 1, dp_285 hN h1 hp P8 hns ns 0 (k + 1) 0 _ u v (by omega) (by omega) (by omega) hA hB⟩))))
  | succ d ih =>
    intro i k u v hd hk hA hB
    have nz : ¬ nI P = 0 := nI_ne0 (by omega) (by omega)
    have fin : ∀ z0 : Int32, wL_law_201 post N xs (wL_law_162 post N xs (nI P) (nI p) (nI np) kc ks (d + 1)) (nI (k + 1)) (nI P) (nI p) (nI np) (nI i) z0 kc ks u.1 u.2.1 u.2.2.1 u.2.2.2.1 u.2.2.2.2.1 u.2.2.2.2.2.1 u.2.2.2.2.2.2.1 u.2.2.2.2.2.2.2.1 u.2.2.2.2.2.2.2.2.1 u.2.2.2.2.2.2.2.2.2.1 u.2.2.2.2.2.2.2.2.2.2.1 u.2.2.2.2.2.2.2.2.2.2.2.1 u.2.2.2.2.2.2.2.2.2.2.2.2.1 u.2.2.2.2.2.2.2.2.2.2.2.2.2.1 u.2.2.2.2.2.2.2.2.2.2.2.2.2.2.1 u.2.2.2.2.2.2.2.2.2.2.2.2.2.2.2.1 u.2.2.2.2.2.2.2.2.2.2.2.2.2.2.2.2.1 u.2.2.2.2.2.2.2.2.2.2.2.2.2.2.2.2.2.1 u.2.2.2.2.2.2.2.2.2.2.2.2.2.2.2.2.2.2.1 u.2.2.2.2.2.2.2.2.2.2.2.2.2.2.2.2.2.2.2.1 u.2.2.2.2.2.2.2.2.2.2.2.2.2.2.2.2.2.2.2.2 v.1 v.2.1 v.2.2.1 v.2.2.2.1 v.2.2.2.2.1 v.2.2.2.2.2.1 v.2.2.2.2.2.2.1 v.2.2.2.2.2.2.2.1 v.2.2.2.2.2.2.2.2.1 v.2.2.2.2.2.2.2.2.2.1 v.2.2.2.2.2.2.2.2.2.2.1 v.2.2.2.2.2.2.2.2.2.2.2.1 v.2.2.2.2.2.2.2.2.2.2.2.2.1 v.2.2.2.2.2.2.2.2.2.2.2.2.2.1 v.2.2.2.2.2.2.2.2.2.2.2.2.2.2.1 v.2.2.2.2.2.2.2.2.2.2.2.2.2.2.2.1 v.2.2.2.2.2.2.2.2.2.2.2.2.2.2.2.2.1 v.2.2.2.2.2.2.2.2.2.2.2.2.2.2.2.2.2.1 v.2.2.2.2.2.2.2.2.2.2.2.2.2.2.2.2.2.2.1 v.2.2.2.2.2.2.2.2.2.2.2.2.2.2.2.2.2.2.2.1 v.2.2.2.2.2.2.2.2.2.2.2.2.2.2.2.2.2.2.2.2 := by
      intro z0
      refine nm_r (nI_1 (k + 1)) (dp_cell hN (by omega) (fun _ => dp_ma nz (fun _ => nm_r (nI_1 (k + 2)) (dp_cell hN (by omega) (fun _ => dp_ma (dp_shne P P8) (fun _ => nm_e (dp_pol hA (fun _ u' hA' => ?_))))))))
      obtain ⟨xP, xC, xA, xL, xO, xQ, xS, xK, dA, aA, po, st, jm, pl, op, el, so, ip, va, ov, oc⟩ := u'
      refine dp_pol hB (fun _ v' hB' => ?_)
      obtain ⟨xP', xC', xA', xL', xO', xQ', xS', xK', dA', aA', po', st', jm', pl', op', el', so', ip', va', ov', oc'⟩ := v'
      exact nm_r (nI_1 i) (ih (i + 1) (k + 3) (xP, xC, xA, xL, xO, xQ, xS, xK, dA, aA, po, st, jm, pl, op, el, so, ip, va, ov, oc) (xP', xC', xA', xL', xO', xQ', xS', xK', dA', aA', po', st', jm', pl', op', el', so', ip', va', ov', oc') (by omega) (by omega) hA' hB')
    exact br_f (nI_ge (by omega) (by omega)) (nm_r (nI_1 k) (dp_cell hN (by omega) (fun _ => dp_ma (by decide) (fun _ => br_c (fun _ => fin _) (fun _ => fin _)))))
theorem dp_74 {post : Int32 → Prop} {N : Nat} {xs : Nat → Int32} {kc ks P p ne : Nat} (hN : N ≤ 260) (h1 : post 1) (hp : p < P) (P8 : P ≤ 8) (hne : ne < 5) : ∀ (d i k : Nat) (u v : St2), i + d = ne → k ≤ 1000 + 10 * i → dp_X P 0 (fun _ => 0) u → dp_X P 0 (fun _ => 0) v → wL_law_74 post N xs (nI P) (nI p) (nI ne) kc ks (d + 1) (nI k) (nI i) u.1 u.2.1 u.2.2.1 u.2.2.2.1 u.2.2.2.2.1 u.2.2.2.2.2.1 u.2.2.2.2.2.2.1 u.2.2.2.2.2.2.2.1 u.2.2.2.2.2.2.2.2.1 u.2.2.2.2.2.2.2.2.2.1 u.2.2.2.2.2.2.2.2.2.2.1 u.2.2.2.2.2.2.2.2.2.2.2.1 u.2.2.2.2.2.2.2.2.2.2.2.2.1 u.2.2.2.2.2.2.2.2.2.2.2.2.2.1 u.2.2.2.2.2.2.2.2.2.2.2.2.2.2.1 u.2.2.2.2.2.2.2.2.2.2.2.2.2.2.2.1 u.2.2.2.2.2.2.2.2.2.2.2.2.2.2.2.2.1 u.2.2.2.2.2.2.2.2.2.2.2.2.2.2.2.2.2.1 u.2.2.2.2.2.2.2.2.2.2.2.2.2.2.2.2.2.2.1 u.2.2.2.2.2.2.2.2.2.2.2.2.2.2.2.2.2.2.2.1 u.2.2.2.2.2.2.2.2.2.2.2.2.2.2.2.2.2.2.2.2 v.1 v.2.1 v.2.2.1 v.2.2.2.1 v.2.2.2.2.1 v.2.2.2.2.2.1 v.2.2.2.2.2.2.1 v.2.2.2.2.2.2.2.1 v.2.2.2.2.2.2.2.2.1 v.2.2.2.2.2.2.2.2.2.1 v.2.2.2.2.2.2.2.2.2.2.1 v.2.2.2.2.2.2.2.2.2.2.2.1 v.2.2.2.2.2.2.2.2.2.2.2.2.1 v.2.2.2.2.2.2.2.2.2.2.2.2.2.1 v.2.2.2.2.2.2.2.2.2.2.2.2.2.2.1 v.2.2.2.2.2.2.2.2.2.2.2.2.2.2.2.1 v.2.2.2.2.2.2.2.2.2.2.2.2.2.2.2.2.1 v.2.2.2.2.2.2.2.2.2.2.2.2.2.2.2.2.2.1 v.2.2.2.2.2.2.2.2.2.2.2.2.2.2.2.2.2.2.1 v.2.2.2.2.2.2.2.2.2.2.2.2.2.2.2.2.2.2.2.1 v.2.2.2.2.2.2.2.2.2.2.2.2.2.2.2.2.2.2.2.2 := by
  intro d
  induction d with
  | zero =>
    intro i k u v hd hk hA hB
    have e : i = ne := by omega
    subst e
    exact br_t (nI_le (Nat.le_refl _) (by omega)) (nm_r (nI_1 k) (dp_cell hN (by omega) (fun _ => dp_m 16 (by omega) (by omega) (fun np hnp => ⟨np + 1, dp_162 hN h1 hp P8 hnp np 0 (k + 1) u v (by omega) (by omega) hA hB⟩))))
  | succ d ih =>
    intro i k u v hd hk hA hB
    have nz : ¬ nI P = 0 := nI_ne0 (by omega) (by omega)
    refine br_f (nI_ge (by omega) (by omega)) (nm_r (nI_1 k) (dp_cell hN (by omega) (fun _ => dp_ma nz (fun a => nm_r (nI_1 (k + 1)) (dp_cell hN (by omega) (fun _ => dp_ma nz (fun b => br_c (fun _ => nm_r (nI_1 i) (ih (i + 1) (k + 2) u v (by omega) (by omega) hA hB)) (fun _ => dp_acts hA (fun _ u' hA' => ?_)))))))))
    obtain ⟨xP, xC, xA, xL, xO, xQ, xS, xK, dA, aA, po, st, jm, pl, op, el, so, ip, va, ov, oc⟩ := u'
    refine dp_acts hB (fun _ v' hB' => ?_)
    obtain ⟨xP', xC', xA', xL', xO', xQ', xS', xK', dA', aA', po', st', jm', pl', op', el', so', ip', va', ov', oc'⟩ := v'
    exact nm_r (nI_1 i) (ih (i + 1) (k + 2) (xP, xC, xA, xL, xO, xQ, xS, xK, dA, aA, po, st, jm, pl, op, el, so, ip, va, ov, oc) (xP', xC', xA', xL', xO', xQ', xS', xK', dA', aA', po', st', jm', pl', op', el', so', ip', va', ov', oc') (by omega) (by omega) hA' hB')
end
end
section
/-! p18: what is owed -/
theorem i_vc (xs : Nat → Int32) (L : Nat) (hL : L ≤ 260) : wpL_law (fun r => r = 1) L xs := by
  unfold wpL_law
  refine nm_r (nI_1 0) (dp_cell (k := 0) hL (by omega) (fun _ => dp_m 4 (by omega) (by omega) (fun r hr => nm_r (show (2 : Int32) + nI r = nI (2 + r) from nI_add 2 r) ⟨13, 692, by omega, by omega, dp_init (by omega) (by omega) (fun u hA => ?_)⟩)))
  obtain ⟨xP, xC, xA, xL, xO, xQ, xS, xK, dA, aA, po, st, jm, pl, op, el, so, ip, va, ov, oc⟩ := u
  refine ⟨by omega, by omega, 13, 692, by omega, by omega, dp_init (by omega) (by omega) (fun v hB => ?_)⟩
  obtain ⟨xP', xC', xA', xL', xO', xQ', xS', xK', dA', aA', po', st', jm', pl', op', el', so', ip', va', ov', oc'⟩ := v
  exact nm_r (nI_1 1) (dp_cell (k := 1) hL (by omega) (fun _ => dp_m (2 + r) (by omega) (by omega) (fun p hp => nm_r (nI_1 2) (dp_cell (k := 2) hL (by omega) (fun _ => dp_m 5 (by omega) (by omega) (fun ne hne => ⟨ne + 1, dp_74 (post := fun r => r = 1) hL rfl hp (by omega) hne ne 0 3 (xP, xC, xA, xL, xO, xQ, xS, xK, dA, aA, po, st, jm, pl, op, el, so, ip, va, ov, oc) (xP', xC', xA', xL', xO', xQ', xS', xK', dA', aA', po', st', jm', pl', op', el', so', ip', va', ov', oc') (by omega) (by omega) hA hB⟩))))))
end
