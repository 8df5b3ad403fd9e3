/-! chains of edges among the principals below P: no print in this part -/
def dl_R (P : Nat) (e : Nat → Nat → Prop) : Nat → Nat → Nat → Prop
  | 0, a, b => a = b
  | n + 1, a, b => ∃ c, c < P ∧ dl_R P e n a c ∧ e c b
def dl_T (P : Nat) (e : Nat → Nat → Prop) (a b : Nat) : Prop := ∃ n, dl_R P e n a b
theorem dl_T0 (P : Nat) (e : Nat → Nat → Prop) (a : Nat) : dl_T P e a a := ⟨0, rfl⟩
theorem dl_Ts {P : Nat} {e : Nat → Nat → Prop} {a c b : Nat} (h : dl_T P e a c) (hc : c < P) (he : e c b) : dl_T P e a b := by
  obtain ⟨n, hn⟩ := h
  exact ⟨n + 1, c, hc, hn, he⟩
theorem dl_Tt {P : Nat} {e : Nat → Nat → Prop} {a b c : Nat} (h : dl_T P e a b) (g : dl_T P e b c) : dl_T P e a c := by
  obtain ⟨m, hm⟩ := g
  induction m generalizing c with
  | zero =>
    have z : b = c := hm
    subst z
    exact h
  | succ m ih =>
    obtain ⟨d, hd, h1, h2⟩ := hm
    exact dl_Ts (ih h1) hd h2
/-- what holds of a, and goes over every edge, holds of all that a reaches -/
theorem dl_Ti {P : Nat} {e : Nat → Nat → Prop} {a : Nat} {Q : Nat → Prop} (h0 : Q a) (hs : ∀ c b, c < P → b < P → Q c → e c b → Q b) : ∀ n b, b < P → dl_R P e n a b → Q b := by
  intro n
  induction n with
  | zero =>
    intro b _ h
    have z : a = b := h
    subst z
    exact h0
  | succ n ih =>
    intro b hb h
    obtain ⟨c, hc, h1, h2⟩ := h
    exact hs c b hc hb (ih c hc h1) h2
/-! counting below n -/
noncomputable def dl_cn (p : Nat → Prop) : Nat → Nat
  | 0 => 0
  | n + 1 => dl_cn p n + @ite Nat (p n) (Classical.propDecidable (p n)) 1 0
theorem dl_cn_t {p : Nat → Prop} {n : Nat} (h : p n) : dl_cn p (n + 1) = dl_cn p n + 1 := by
  show dl_cn p n + @ite Nat (p n) (Classical.propDecidable (p n)) 1 0 = _
  rw [if_pos h]
theorem dl_cn_f {p : Nat → Prop} {n : Nat} (h : ¬ p n) : dl_cn p (n + 1) = dl_cn p n := by
  show dl_cn p n + @ite Nat (p n) (Classical.propDecidable (p n)) 1 0 = _
  rw [if_neg h, Nat.add_zero]
theorem dl_cn_le (p : Nat → Prop) : ∀ n, dl_cn p n ≤ n := by
  intro n
  induction n with
  | zero => exact Nat.le_refl _
  | succ n ih =>
    by_cases h : p n
    · rw [dl_cn_t h]; omega
    · rw [dl_cn_f h]; omega
theorem dl_cn_m {p q : Nat → Prop} : ∀ n, (∀ x, x < n → p x → q x) → dl_cn p n ≤ dl_cn q n := by
  intro n
  induction n with
  | zero => intro _; exact Nat.le_refl _
  | succ n ih =>
    intro h
    have i1 := ih (fun x hx => h x (by omega))
    by_cases hp : p n
    · rw [dl_cn_t hp, dl_cn_t (h n (by omega) hp)]; omega
    · rw [dl_cn_f hp]
      by_cases hq : q n
      · rw [dl_cn_t hq]; omega
      · rw [dl_cn_f hq]; exact i1
theorem dl_cn_s {p q : Nat → Prop} {x : Nat} (hq : q x) (hp : ¬ p x) : ∀ n, (∀ y, y < n → p y → q y) → x < n → dl_cn p n < dl_cn q n := by
  intro n
  induction n with
  | zero => intro _ hx; omega
  | succ n ih =>
    intro h hx
    by_cases e : x = n
    · subst e
      have i1 := dl_cn_m x (fun y hy => h y (by omega))
      rw [dl_cn_f hp, dl_cn_t hq]; omega
    · have i1 := ih (fun y hy => h y (by omega)) (by omega)
      by_cases p1 : p n
      · rw [dl_cn_t p1, dl_cn_t (h n (by omega) p1)]; omega
      · rw [dl_cn_f p1]
        by_cases q1 : q n
        · rw [dl_cn_t q1]; omega
        · rw [dl_cn_f q1]; exact i1
theorem dl_cn_1 {p : Nat → Prop} {x n : Nat} (h : p x) (hx : x < n) : 1 ≤ dl_cn p n := by
  have i1 := dl_cn_s (p := fun _ => False) (q := p) h (fun z => z) n (fun _ _ z => z.elim) hx
  omega
/-- a chain among P principals need have no more than P - 1 edges -/
theorem dl_short {P : Nat} {e : Nat → Nat → Prop} {a b : Nat} (ha : a < P) (hb : b < P) (h : dl_T P e a b) : ∃ n, n < P ∧ dl_R P e n a b := by
  have key : ∀ n, n + 1 ≤ dl_cn (fun c => ∃ m, m ≤ n ∧ dl_R P e m a c) P ∨ ∃ k, k < n ∧ ∀ c d, c < P → d < P → (∃ m, m ≤ k ∧ dl_R P e m a c) → e c d → ∃ m, m ≤ k ∧ dl_R P e m a d := by
    intro n
    induction n with
    | zero => exact Or.inl (dl_cn_1 (x := a) ⟨0, Nat.le_refl _, rfl⟩ ha)
    | succ n ih =>
      rcases ih with ih | ⟨k, hk, hc⟩
      · by_cases z : ∀ c d, c < P → d < P → (∃ m, m ≤ n ∧ dl_R P e m a c) → e c d → ∃ m, m ≤ n ∧ dl_R P e m a d
        · exact Or.inr ⟨n, by omega, z⟩
        · refine Or.inl ?_
          have z2 : ∃ c d, c < P ∧ d < P ∧ (∃ m, m ≤ n ∧ dl_R P e m a c) ∧ e c d ∧ ¬ ∃ m, m ≤ n ∧ dl_R P e m a d := by
            refine Classical.byContradiction fun w => z fun c d hc hd h1 h2 => Classical.byContradiction fun w2 => w ⟨c, d, hc, hd, h1, h2, w2⟩
          obtain ⟨c, d, hc, hd, ⟨m, hm, hr⟩, h2, h3⟩ := z2
          have i1 := dl_cn_s (p := fun c => ∃ m, m ≤ n ∧ dl_R P e m a c) (q := fun c => ∃ m, m ≤ n + 1 ∧ dl_R P e m a c) (x := d) ⟨m + 1, by omega, c, hc, hr, h2⟩ h3 P (fun y _ ⟨m, hm, hr⟩ => ⟨m, by omega, hr⟩) hd
          omega
      · exact Or.inr ⟨k, by omega, hc⟩
  rcases key P with k1 | ⟨k, hk, hc⟩
  · have k2 := dl_cn_le (fun c => ∃ m, m ≤ P ∧ dl_R P e m a c) P
    omega
  · obtain ⟨n, hn⟩ := h
    obtain ⟨m, hm, hr⟩ := dl_Ti (Q := fun c => ∃ m, m ≤ k ∧ dl_R P e m a c) ⟨0, Nat.zero_le _, rfl⟩ hc n b hb hn
    exact ⟨m, by omega, hr⟩
