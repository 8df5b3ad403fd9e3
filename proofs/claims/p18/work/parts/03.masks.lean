/-! masks of principals, both closures and the effective readers; no print in this part (it wants the pasted rows bt, b_ext, b_and, b_or, b_0, b_big, b_shl, b_sshr, s_l) -/
theorem dl_1 : ∀ i, i < 32 → bt 1 i = decide (i = 0) := by decide +kernel
theorem dl_one {p i : Nat} (hp : p < 32) (hi : i < 32) : bt ((1 : Int32) <<< (nI p &&& 31)) i = decide (i = p) := by
  rw [b_shl p hp 1 hi]
  rcases Nat.lt_or_ge i p with h | h
  · rw [decide_eq_false (show ¬ p ≤ i by omega), decide_eq_false (show ¬ i = p by omega)]
    rfl
  · rw [decide_eq_true h, dl_1 (i - p) (by omega), Bool.true_and]
    by_cases e : i = p
    · rw [decide_eq_true e, decide_eq_true (show i - p = 0 by omega)]
    · rw [decide_eq_false e, decide_eq_false (show ¬ i - p = 0 by omega)]
theorem dl_bz {x : Int32} {p : Nat} (hp : p < 32) : (x &&& ((1 : Int32) <<< (nI p &&& 31))) = 0 ↔ bt x p = false := by
  constructor
  · intro h
    have t := congrArg (fun y => bt y p) h
    have t : bt (x &&& ((1 : Int32) <<< (nI p &&& 31))) p = bt 0 p := t
    rw [b_and, dl_one hp hp, b_0, decide_eq_true rfl, Bool.and_true] at t
    exact t
  · intro h
    apply b_ext
    intro i hi
    rw [b_and, dl_one hp hi, b_0]
    by_cases e : i = p
    · subst e
      rw [h, Bool.false_and]
    · rw [decide_eq_false e, Bool.and_false]
theorem dl_bs {x : Int32} {p : Nat} (hp : p < 32) : ((x >>> (nI p &&& 31)) &&& 1) = 0 ↔ bt x p = false := by
  have h0 : bt (x >>> (nI p &&& 31)) 0 = bt x p := by
    rw [b_sshr p hp x (by omega), Nat.add_zero, if_pos hp]
  constructor
  · intro h
    have t : bt ((x >>> (nI p &&& 31)) &&& 1) 0 = bt 0 0 := congrArg (fun y => bt y 0) h
    rw [b_and, h0, b_0, dl_1 0 (by omega), decide_eq_true rfl, Bool.and_true] at t
    exact t
  · intro h
    apply b_ext
    intro i hi
    rw [b_and, dl_1 i hi, b_0]
    by_cases e : i = 0
    · subst e
      rw [h0, h, Bool.false_and]
    · rw [decide_eq_false e, Bool.and_false]
theorem dl_nt {x : Bool} (h : ¬ x = false) : x = true := by cases x <;> first | rfl | exact absurd rfl h
theorem dl_nf {x : Bool} (h : ¬ x = true) : x = false := by cases x <;> first | rfl | exact absurd rfl h
theorem dl_tf {x : Bool} (h : x = true) : ¬ x = false := by rw [h]; decide
/-- the direct edges as rows of actors -/
def dl_E (D : Nat → Int32) (a b : Nat) : Prop := bt (D b) a = true
/-! the component's closure, by the middle principal -/
def dl_W (A : Nat → Int32) (m : Nat) : Nat → Int32 := fun x => if bt (A x) m = true then A x ||| A m else A x
theorem dl_Wb (A : Nat → Int32) (m x q : Nat) : bt (dl_W A m x) q = true ↔ bt (A x) q = true ∨ (bt (A x) m = true ∧ bt (A m) q = true) := by
  unfold dl_W
  by_cases h : bt (A x) m = true
  · rw [if_pos h, b_or, Bool.or_eq_true]
    exact ⟨fun z => z.elim Or.inl (fun y => Or.inr ⟨h, y⟩), fun z => z.elim Or.inl (fun y => Or.inr y.2)⟩
  · rw [if_neg h]
    exact ⟨Or.inl, fun z => z.elim (fun y => y) (fun y => absurd y.1 h)⟩
theorem dl_Wm (A : Nat → Int32) (m : Nat) : dl_W A m m = A m := by
  unfold dl_W
  by_cases h : bt (A m) m = true
  · rw [if_pos h]
    apply b_ext
    intro i _
    rw [b_or, Bool.or_self]
  · rw [if_neg h]
def dl_V (P : Nat) (D A : Nat → Int32) (m : Nat) : Prop := (∀ p, p < P → ∀ q, bt (A p) q = true → q < P ∧ dl_T P (dl_E D) q p) ∧ (∀ p, p < P → bt (A p) p = true) ∧ (∀ p, p < P → ∀ q, bt (D p) q = true → bt (A p) q = true) ∧ (∀ k, k < m → ∀ p, p < P → ∀ q, bt (A k) q = true → bt (A p) k = true → bt (A p) q = true)
theorem dl_V0 {P : Nat} {D A : Nat → Int32} (hP : P ≤ 32) (hD : ∀ p, p < P → ∀ q, bt (D p) q = true → q < P) (hA : ∀ p, p < P → A p = D p ||| ((1 : Int32) <<< (nI p &&& 31))) : dl_V P D A 0 := by
  have hb : ∀ p, p < P → ∀ q, bt (A p) q = true ↔ bt (D p) q = true ∨ q = p := by
    intro p hp q
    rcases Nat.lt_or_ge q 32 with h | h
    · rw [hA p hp, b_or, dl_one (by omega) h, Bool.or_eq_true, decide_eq_true_iff]
    · rw [b_big h, b_big h]
      exact ⟨fun z => absurd z (by decide), fun z => z.elim (fun y => absurd y (by decide)) (fun y => by omega)⟩
  refine ⟨fun p hp q hq => ?_, fun p hp => (hb p hp p).mpr (Or.inr rfl), fun p hp q hq => (hb p hp q).mpr (Or.inl hq), fun k hk => absurd hk (by omega)⟩
  rcases (hb p hp q).mp hq with h | h
  · exact ⟨hD p hp q h, dl_Ts (dl_T0 P _ q) (hD p hp q h) h⟩
  · subst h
    exact ⟨hp, dl_T0 P _ q⟩
theorem dl_Vs {P : Nat} {D A A' : Nat → Int32} {m : Nat} (hm : m < P) (V : dl_V P D A m) (hA : ∀ x, x < P → A' x = dl_W A m x) : dl_V P D A' (m + 1) := by
  obtain ⟨v1, v2, v3, v4⟩ := V
  have hb : ∀ p, p < P → ∀ q, bt (A' p) q = true ↔ bt (A p) q = true ∨ (bt (A p) m = true ∧ bt (A m) q = true) := by
    intro p hp q
    rw [hA p hp]
    exact dl_Wb A m p q
  refine ⟨fun p hp q hq => ?_, fun p hp => (hb p hp p).mpr (Or.inl (v2 p hp)), fun p hp q hq => (hb p hp q).mpr (Or.inl (v3 p hp q hq)), fun k hk p hp q h1 h2 => ?_⟩
  · rcases (hb p hp q).mp hq with h | ⟨h, h'⟩
    · exact v1 p hp q h
    · exact ⟨(v1 m hm q h').1, dl_Tt (v1 m hm q h').2 (v1 p hp m h).2⟩
  · have hk2 : k < P := by omega
    have mp : bt (A p) k = true ∨ (bt (A p) m = true ∧ bt (A m) k = true) := (hb p hp k).mp h2
    have mk : bt (A k) q = true ∨ (bt (A k) m = true ∧ bt (A m) q = true) := (hb k hk2 q).mp h1
    rcases Nat.lt_or_ge k m with h | h
    · rcases mp with a | ⟨a, b⟩
      · rcases mk with c | ⟨c, d⟩
        · exact (hb p hp q).mpr (Or.inl (v4 k h p hp q c a))
        · exact (hb p hp q).mpr (Or.inr ⟨v4 k h p hp m c a, d⟩)
      · rcases mk with c | ⟨c, d⟩
        · exact (hb p hp q).mpr (Or.inr ⟨a, v4 k h m hm q c b⟩)
        · exact (hb p hp q).mpr (Or.inr ⟨a, d⟩)
    · have e : k = m := by omega
      subst e
      have a : bt (A p) k = true := mp.elim (fun y => y) (fun y => y.1)
      have c : bt (A k) q = true := mk.elim (fun y => y) (fun y => y.2)
      exact (hb p hp q).mpr (Or.inr ⟨a, c⟩)
/-- what the component keeps of its closure -/
def dl_A (P : Nat) (D A : Nat → Int32) : Prop := ∀ p, p < P → ∀ q, bt (A p) q = true ↔ q < P ∧ dl_T P (dl_E D) q p
theorem dl_Vf {P : Nat} {D A : Nat → Int32} (V : dl_V P D A P) : dl_A P D A := by
  obtain ⟨v1, v2, v3, v4⟩ := V
  intro p hp q
  refine ⟨v1 p hp q, fun h => ?_⟩
  obtain ⟨hq, n, hn⟩ := h
  exact dl_Ti (Q := fun b => bt (A b) q = true) (v2 q hq) (fun c b hc hb h1 h2 => v4 c hc b hb q h1 (v3 b hb c h2)) n p hp hn
/-! the reference's closure: cells C (8 i + j), by rounds of one edge more -/
def dl_C (P : Nat) (e : Nat → Nat → Prop) (C : Nat → Int32) (r : Nat) : Prop := (∀ x, x < 64 → C x = 0 ∨ C x = 1) ∧ (∀ i j, i < P → j < P → ¬ C (i * 8 + j) = 0 → dl_T P e i j) ∧ (∀ m i j, m ≤ r → i < P → j < P → dl_R P e m i j → ¬ C (i * 8 + j) = 0)
def dl_Ci (P : Nat) (e : Nat → Nat → Prop) (C0 C : Nat → Int32) (t : Nat) : Prop := (∀ x, x < 64 → C x = 0 ∨ C x = 1) ∧ (∀ i j, i < P → j < P → ¬ C (i * 8 + j) = 0 → dl_T P e i j) ∧ (∀ x, ¬ C0 x = 0 → ¬ C x = 0) ∧ (∀ s, s < t → ¬ C0 (s / (P * P) * 8 + s / P % P) = 0 → e (s / P % P) (s % P) → ¬ C (s / (P * P) * 8 + s % P) = 0)
theorem dl_ix {x j M P : Nat} (hx : x < M) (hj : j < P) : x * P + j < M * P := by
  have h : (x + 1) * P ≤ M * P := Nat.mul_le_mul_right P hx
  rw [Nat.add_mul, Nat.one_mul] at h
  omega
theorem dl_dm {x j P : Nat} (hj : j < P) : (x * P + j) / P = x ∧ (x * P + j) % P = j := by
  have hp : 0 < P := by omega
  constructor
  · rw [Nat.mul_comm, Nat.mul_add_div hp, Nat.div_eq_of_lt hj, Nat.add_zero]
  · rw [Nat.mul_comm, Nat.mul_add_mod, Nat.mod_eq_of_lt hj]
theorem dl_C0 {P : Nat} {e : Nat → Nat → Prop} {C : Nat → Int32} (hP : P ≤ 8) (h1 : ∀ x, x < 64 → C x = 0 ∨ C x = 1) (h2 : ∀ i j, i < P → j < P → (¬ C (i * 8 + j) = 0 ↔ i = j ∨ e i j)) : dl_C P e C 0 := by
  refine ⟨h1, fun i j hi hj h => ?_, fun m i j hm hi hj h => ?_⟩
  · rcases (h2 i j hi hj).mp h with z | z
    · subst z
      exact dl_T0 P e i
    · exact dl_Ts (dl_T0 P e i) hi z
  · have e0 : m = 0 := by omega
    subst e0
    have z : i = j := h
    exact (h2 i j hi hj).mpr (Or.inl z)
theorem dl_Ci0 {P : Nat} {e : Nat → Nat → Prop} {C : Nat → Int32} {r : Nat} (h : dl_C P e C r) : dl_Ci P e C C 0 := ⟨h.1, h.2.1, fun _ z => z, fun s hs => absurd hs (by omega)⟩
theorem dl_Cs {P : Nat} {e : Nat → Nat → Prop} {C0 C : Nat → Int32} {r : Nat} (h : dl_C P e C0 r) (g : dl_Ci P e C0 C (P * P * P)) : dl_C P e C (r + 1) := by
  refine ⟨g.1, g.2.1, fun m i j hm hi hj hr => ?_⟩
  rcases Nat.lt_or_ge r m with h1 | h1
  · have e0 : m = r + 1 := by omega
    subst e0
    obtain ⟨c, hc, h2, h3⟩ := hr
    have h4 := h.2.2 r i c (Nat.le_refl _) hi hc h2
    have h5 := dl_ix (dl_ix hi hc) hj
    have d1 := dl_dm (x := i * P + c) hj
    have d2 := dl_dm (x := i) hc
    have d3 : ((i * P + c) * P + j) / (P * P) = i := by rw [← Nat.div_div_eq_div_mul, d1.1, d2.1]
    have h6 := g.2.2.2 ((i * P + c) * P + j) h5
    rw [d3, d1.1, d1.2, d2.2] at h6
    exact h6 h4 h3
  · exact g.2.2.1 _ (h.2.2 m i j h1 hi hj hr)
theorem dl_cell {i j a b : Nat} (hj : j < 8) (hb : b < 8) (h : i * 8 + j = a * 8 + b) : i = a ∧ j = b := by omega
/-- one turn of the inner loop -/
theorem dl_Cis {P : Nat} {e : Nat → Nat → Prop} {C0 C C' : Nat → Int32} {t : Nat} (hP : 0 < P) (hP8 : P ≤ 8) (g : dl_Ci P e C0 C t) (h : (C' = C ∧ ¬ (¬ C (t / (P * P) * 8 + t / P % P) = 0 ∧ e (t / P % P) (t % P))) ∨ (C' = upd C (t / (P * P) * 8 + t % P) 1 ∧ ¬ C (t / (P * P) * 8 + t / P % P) = 0 ∧ e (t / P % P) (t % P))) (hi : t / (P * P) < P) : dl_Ci P e C0 C' (t + 1) := by
  obtain ⟨g1, g2, g3, g4⟩ := g
  have hk : t / P % P < P := Nat.mod_lt _ hP
  have hj : t % P < P := Nat.mod_lt _ hP
  rcases h with ⟨h1, h2⟩ | ⟨h1, h2, h3⟩
  · subst h1
    refine ⟨g1, g2, g3, fun s hs a b => ?_⟩
    rcases Nat.lt_or_ge s t with z | z
    · exact g4 s z a b
    · have e0 : s = t := by omega
      subst e0
      exact absurd ⟨g3 _ a, b⟩ h2
  · subst h1
    have u : ∀ x, ¬ C x = 0 → ¬ upd C (t / (P * P) * 8 + t % P) 1 x = 0 := by
      intro x hx
      unfold upd
      split
      · decide
      · exact hx
    refine ⟨fun x hx => ?_, fun i j hi' hj' h => ?_, fun x hx => u x (g3 x hx), fun s hs a b => ?_⟩
    · unfold upd
      split
      · exact Or.inr rfl
      · exact g1 x hx
    · unfold upd at h
      split at h
      · rename_i z
        have tk := dl_Ts (g2 _ _ hi hk h2) hk h3
        obtain ⟨e1, e2⟩ := dl_cell (show j < 8 by omega) (show t % P < 8 by omega) z
        rw [e1, e2]
        exact tk
      · exact g2 i j hi' hj' h
    · rcases Nat.lt_or_ge s t with z | z
      · exact u _ (g4 s z a b)
      · have e0 : s = t := by omega
        subst e0
        unfold upd
        rw [if_pos rfl]
        decide
/-! effective readers -/
def dl_e (A : Nat → Int32) (o : Nat) (r : Int32) : Nat → Int32
  | 0 => A o
  | n + 1 => if bt r n = true then dl_e A o r n ||| A n else dl_e A o r n
theorem dl_eb (A : Nat → Int32) (o : Nat) (r : Int32) (q : Nat) : ∀ n, bt (dl_e A o r n) q = true ↔ bt (A o) q = true ∨ ∃ s, s < n ∧ bt r s = true ∧ bt (A s) q = true := by
  intro n
  induction n with
  | zero => exact ⟨Or.inl, fun h => h.elim (fun y => y) (fun ⟨s, hs, _⟩ => absurd hs (by omega))⟩
  | succ n ih =>
    show bt (if bt r n = true then dl_e A o r n ||| A n else dl_e A o r n) q = true ↔ _
    by_cases h : bt r n = true
    · rw [if_pos h, b_or, Bool.or_eq_true, ih]
      constructor
      · rintro ((z | ⟨s, h1, h2, h3⟩) | z)
        · exact Or.inl z
        · exact Or.inr ⟨s, by omega, h2, h3⟩
        · exact Or.inr ⟨n, by omega, h, z⟩
      · rintro (z | ⟨s, h1, h2, h3⟩)
        · exact Or.inl (Or.inl z)
        · rcases Nat.lt_or_ge s n with w | w
          · exact Or.inl (Or.inr ⟨s, w, h2, h3⟩)
          · have e0 : s = n := by omega
            subst e0
            exact Or.inr h3
    · rw [if_neg h, ih]
      constructor
      · rintro (z | ⟨s, h1, h2, h3⟩)
        · exact Or.inl z
        · exact Or.inr ⟨s, by omega, h2, h3⟩
      · rintro (z | ⟨s, h1, h2, h3⟩)
        · exact Or.inl z
        · rcases Nat.lt_or_ge s n with w | w
          · exact Or.inr ⟨s, w, h2, h3⟩
          · have e0 : s = n := by omega
            subst e0
            exact absurd h2 h
/-- closure cells and closure rows say the same -/
def dl_CA (P : Nat) (C A : Nat → Int32) : Prop := ∀ i j, i < P → j < P → (¬ C (i * 8 + j) = 0 ↔ bt (A j) i = true)
/-- q is an effective reader, by the reference's cells -/
def dl_in (P : Nat) (C : Nat → Int32) (o : Nat) (r : Int32) (q : Nat) : Prop := ¬ C (q * 8 + o) = 0 ∨ ∃ s, s < P ∧ bt r s = true ∧ ¬ C (q * 8 + s) = 0
theorem dl_in_e {P : Nat} {C A : Nat → Int32} {o q : Nat} {r : Int32} (h : dl_CA P C A) (ho : o < P) (hq : q < P) : dl_in P C o r q ↔ bt (dl_e A o r P) q = true := by
  rw [dl_eb]
  unfold dl_in
  rw [h q o hq ho]
  constructor
  · rintro (z | ⟨s, h1, h2, h3⟩)
    · exact Or.inl z
    · exact Or.inr ⟨s, h1, h2, (h q s hq h1).mp h3⟩
  · rintro (z | ⟨s, h1, h2, h3⟩)
    · exact Or.inl z
    · exact Or.inr ⟨s, h1, h2, (h q s hq h1).mpr h3⟩
theorem dl_e_P {P : Nat} {D A : Nat → Int32} {o q : Nat} {r : Int32} (h : dl_A P D A) (ho : o < P) (hb : bt (dl_e A o r P) q = true) : q < P := by
  rcases (dl_eb A o r q P).mp hb with z | ⟨s, h1, h2, h3⟩
  · exact ((h o ho q).mp z).1
  · exact ((h s h1 q).mp h3).1
/-- the mask that the reference builds is the component's -/
theorem dl_mask {P : Nat} {D C A : Nat → Int32} {o : Nat} {r m : Int32} (hA : dl_A P D A) (h : dl_CA P C A) (ho : o < P) (hm : ∀ i, i < 32 → (bt m i = true ↔ i < P ∧ dl_in P C o r i)) : m = dl_e A o r P := by
  apply b_ext
  intro i hi
  by_cases z : bt (dl_e A o r P) i = true
  · have hp := dl_e_P hA ho z
    rw [z, (hm i hi).mpr ⟨hp, (dl_in_e h ho hp).mpr z⟩]
  · rw [dl_nf z, dl_nf (fun w => z ((dl_in_e h ho ((hm i hi).mp w).1).mp ((hm i hi).mp w).2))]
