/-! labels that the observer p reads; no print in this part -/
def ds_rr (P : Nat) (A s : Nat → Int32) (p : Nat) : Prop := ∀ o, o < P → ¬ s o = -1 → bt (dl_e A o (s o) P) p = true
theorem ds_rr_c {P : Nat} {A s s' : Nat → Int32} {p : Nat} (h : ∀ o, o < P → s o = s' o) (g : ds_rr P A s p) : ds_rr P A s' p := by
  intro o ho n
  rw [← h o ho] at n ⊢
  exact g o ho n
theorem ds_e_m {A : Nat → Int32} {o P p : Nat} {r x : Int32} (h : bt (dl_e A o (r &&& x) P) p = true) : bt (dl_e A o r P) p = true := by
  rw [dl_eb] at h ⊢
  rcases h with h | ⟨s, h1, h2, h3⟩
  · exact Or.inl h
  · rw [b_and, Bool.and_eq_true] at h2
    exact Or.inr ⟨s, h1, h2.1, h3⟩
theorem ds_and_m1 {a b : Int32} (h : a &&& b = -1) : a = -1 := by
  apply b_ext
  intro i hi
  have t : bt (a &&& b) i = bt (-1) i := by rw [h]
  rw [b_and, b_m1 i hi, Bool.and_eq_true] at t
  rw [t.1, b_m1 i hi]
theorem ds_rr_1 {P : Nat} {A a b : Nat → Int32} {p : Nat} (g : ds_rr P A (fun o => a o &&& b o) p) : ds_rr P A a p := fun o ho n => ds_e_m (g o ho (fun z => n (ds_and_m1 z)))
theorem ds_rr_2 {P : Nat} {A a b : Nat → Int32} {p : Nat} (g : ds_rr P A (fun o => a o &&& b o) p) : ds_rr P A b p := by
  refine ds_rr_1 (b := a) (ds_rr_c (fun o _ => ?_) g)
  exact Int32.and_comm _ _
/-- who reads the target reads what flows into it -/
theorem ds_fl_rr {P : Nat} {A po s : Nat → Int32} {t p : Nat} (hp : p < 32) (f : dl_fl P A po s t 0) (r : dl_rd P A po t p) : ds_rr P A s p := by
  intro o ho n
  obtain ⟨k, hk, h1, h2, h3⟩ := f o ho n Int32.and_zero
  have a := r k hk h1
  have e : bt (dl_e A k (po (t * 8 + k)) P &&& (dl_e A o (s o) P ^^^ (-1))) p = bt 0 p := by rw [h3]
  rw [b_and, b_xor, b_m1 p hp, b_0, a, Bool.true_and] at e
  revert e
  cases bt (dl_e A o (s o) P) p
  · intro e
    exact absurd e (by decide)
  · intro _
    rfl
/-- the rows of the pc: who reads row d reads every guard below it -/
def ds_PL (P : Nat) (A pl st op : Nat → Int32) (lv : Nat → Prop) (D p : Nat) : Prop := ∀ d, d ≤ D → ds_rr P A (fun o => pl (d * 8 + o)) p → ∀ d', d' < d → lv (ds_a st (ds_on op d'))
def ds_lv (P : Nat) (A po : Nat → Int32) (p v : Nat) : Prop := v < 16 ∧ dl_rd P A po v p
def ds_lc (P : Nat) (A po : Nat → Int32) (p c : Nat) : Prop := c < 4 ∧ dl_rd P A po (16 + c) p
theorem ds_PL_0 (P : Nat) (A pl st op : Nat → Int32) (lv : Nat → Prop) (p : Nat) : ds_PL P A pl st op lv 0 p := fun d hd _ d' h => absurd h (by omega)
theorem ds_PL_dn {P : Nat} {A pl st op : Nat → Int32} {lv : Nat → Prop} {D p : Nat} (h : ds_PL P A pl st op lv (D + 1) p) : ds_PL P A pl st op lv D p := fun d hd => h d (by omega)
theorem ds_PL_o {P : Nat} {A pl po so st op : Nat → Int32} {D p i t : Nat} (hP : P ≤ 8) (hi : i < 2 ^ 31) (t16 : t < 16) (ht : ds_a st i = t) (h : ds_PL P A pl st op (ds_lv P A po p) D p) : ds_PL P A (dl_seg (dl_S2 pl po so D t) pl ((D + 1) * 8) 8) st (upd op D (nI i)) (ds_lv P A po p) (D + 1) p := by
  have u1 : ∀ d, d < D → ds_on (upd op D (nI i)) d = ds_on op d := fun d hd => by
    unfold ds_on
    rw [pk_un (by omega)]
  have u5 : ds_on (upd op D (nI i)) D = i := by
    unfold ds_on
    rw [pk_us, nI_clamp hi]
  intro d hd g d' hd'
  rcases Nat.lt_or_ge D d with e | e
  · have e1 : d = D + 1 := by omega
    subst e1
    have g2 : ds_rr P A (fun o => pl (D * 8 + o) &&& po (t * 8 + o)) p := by
      refine ds_rr_c (fun o ho => ?_) g
      show dl_seg (dl_S2 pl po so D t) pl ((D + 1) * 8) 8 ((D + 1) * 8 + o) = _
      rw [dl_seg_i (by omega)]
      unfold dl_S2 dl_Sj dl_S1
      rw [dl_row_l (by omega), dl_row_l (by omega)]
    rcases Nat.lt_or_ge d' D with f | f
    · rw [u1 d' f]
      exact h D (Nat.le_refl _) (ds_rr_1 (a := fun o => pl (D * 8 + o)) (b := fun o => po (t * 8 + o)) g2) d' f
    · have f1 : d' = D := by omega
      subst f1
      rw [u5, ht]
      exact ⟨t16, ds_rr_2 (a := fun o => pl (d' * 8 + o)) (b := fun o => po (t * 8 + o)) g2⟩
  · rw [u1 d' (by omega)]
    refine h d e (ds_rr_c (fun o ho => ?_) g) d' hd'
    exact dl_seg_o (by omega)
