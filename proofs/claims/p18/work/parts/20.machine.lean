/-! a pure machine of the checked program, and what an observer sees of two runs; no print in this part -/
abbrev ds_S : Type := Nat × (Nat → Int32) × (Nat → Int32) × (Nat → Int32)
def ds_a (st : Nat → Int32) (i : Nat) : Nat := (st (i * 4 + 1)).toNatClampNeg
def ds_b (st : Nat → Int32) (i : Nat) : Nat := (st (i * 4 + 2)).toNatClampNeg
def ds_c (st : Nat → Int32) (i : Nat) : Nat := (st (i * 4 + 3)).toNatClampNeg
def ds_val (st va : Nat → Int32) (i : Nat) : Int32 :=
  if st (i * 4) = 1 then st (i * 4 + 2)
  else if st (i * 4) = 3 then va (ds_b st i) + va (ds_c st i)
  else if st (i * 4) = 4 then va (ds_b st i) - va (ds_c st i)
  else if st (i * 4) = 5 then va (ds_b st i) * va (ds_c st i)
  else if st (i * 4) = 6 then (if va (ds_b st i) < va (ds_c st i) then 1 else 0)
  else if st (i * 4) = 7 then (if va (ds_b st i) = va (ds_c st i) then 1 else 0)
  else va (ds_b st i)
def ds_br (k : Int32) : Prop := k = 8 ∨ k = 11
def ds_jp (k : Int32) : Prop := k = 9 ∨ k = 10
def ds_cn (oc : Nat → Int32) (c : Nat) : Nat := (oc c).toNatClampNeg
noncomputable def ds_step (st jm : Nat → Int32) (s : ds_S) : ds_S :=
  @ite ds_S (ds_br (st (s.1 * 4))) (Classical.propDecidable _) (@ite Nat (s.2.1 (ds_a st s.1) = 0) (Classical.propDecidable _) (jm s.1).toNatClampNeg (s.1 + 1), s.2)
  (@ite ds_S (ds_jp (st (s.1 * 4))) (Classical.propDecidable _) ((jm s.1).toNatClampNeg, s.2)
  (@ite ds_S (st (s.1 * 4) = 12) (Classical.propDecidable _)
    (@ite ds_S (ds_cn s.2.2.2 (ds_a st s.1) < 16) (Classical.propDecidable _)
      (s.1 + 1, s.2.1, upd s.2.2.1 (ds_a st s.1 * 16 + ds_cn s.2.2.2 (ds_a st s.1)) (s.2.1 (ds_b st s.1)), upd s.2.2.2 (ds_a st s.1) (nI (ds_cn s.2.2.2 (ds_a st s.1) + 1)))
      (s.1 + 1, s.2))
    (s.1 + 1, upd s.2.1 (ds_a st s.1) (ds_val st s.2.1 s.1), s.2.2)))
theorem ds_step_b0 {st jm : Nat → Int32} {s : ds_S} (h : ds_br (st (s.1 * 4))) (g : s.2.1 (ds_a st s.1) = 0) : ds_step st jm s = ((jm s.1).toNatClampNeg, s.2) := by
  unfold ds_step
  rw [if_pos h, if_pos g]
theorem ds_step_b1 {st jm : Nat → Int32} {s : ds_S} (h : ds_br (st (s.1 * 4))) (g : ¬ s.2.1 (ds_a st s.1) = 0) : ds_step st jm s = (s.1 + 1, s.2) := by
  unfold ds_step
  rw [if_pos h, if_neg g]
theorem ds_step_j {st jm : Nat → Int32} {s : ds_S} (h0 : ¬ ds_br (st (s.1 * 4))) (h : ds_jp (st (s.1 * 4))) : ds_step st jm s = ((jm s.1).toNatClampNeg, s.2) := by
  unfold ds_step
  rw [if_neg h0, if_pos h]
theorem ds_step_o1 {st jm : Nat → Int32} {s : ds_S} (h0 : ¬ ds_br (st (s.1 * 4))) (h1 : ¬ ds_jp (st (s.1 * 4))) (h : st (s.1 * 4) = 12) (g : ds_cn s.2.2.2 (ds_a st s.1) < 16) : ds_step st jm s = (s.1 + 1, s.2.1, upd s.2.2.1 (ds_a st s.1 * 16 + ds_cn s.2.2.2 (ds_a st s.1)) (s.2.1 (ds_b st s.1)), upd s.2.2.2 (ds_a st s.1) (nI (ds_cn s.2.2.2 (ds_a st s.1) + 1))) := by
  unfold ds_step
  rw [if_neg h0, if_neg h1, if_pos h, if_pos g]
theorem ds_step_o0 {st jm : Nat → Int32} {s : ds_S} (h0 : ¬ ds_br (st (s.1 * 4))) (h1 : ¬ ds_jp (st (s.1 * 4))) (h : st (s.1 * 4) = 12) (g : ¬ ds_cn s.2.2.2 (ds_a st s.1) < 16) : ds_step st jm s = (s.1 + 1, s.2) := by
  unfold ds_step
  rw [if_neg h0, if_neg h1, if_pos h, if_neg g]
theorem ds_step_w {st jm : Nat → Int32} {s : ds_S} (h0 : ¬ ds_br (st (s.1 * 4))) (h1 : ¬ ds_jp (st (s.1 * 4))) (h : ¬ st (s.1 * 4) = 12) : ds_step st jm s = (s.1 + 1, upd s.2.1 (ds_a st s.1) (ds_val st s.2.1 s.1), s.2.2) := by
  unfold ds_step
  rw [if_neg h0, if_neg h1, if_neg h]
theorem ds_step_1 {st jm : Nat → Int32} {s : ds_S} (h0 : ¬ ds_br (st (s.1 * 4))) (h1 : ¬ ds_jp (st (s.1 * 4))) : (ds_step st jm s).1 = s.1 + 1 := by
  by_cases o : st (s.1 * 4) = 12
  · by_cases g : ds_cn s.2.2.2 (ds_a st s.1) < 16
    · rw [ds_step_o1 h0 h1 o g]
    · rw [ds_step_o0 h0 h1 o g]
  · rw [ds_step_w h0 h1 o]
theorem ds_next {st jm : Nat → Int32} {s : ds_S} {q e : Nat} (a1 : q ≤ s.1) (a2 : s.1 ≤ e) (h : (ds_br (st (s.1 * 4)) ∨ ds_jp (st (s.1 * 4))) → q ≤ (jm s.1).toNatClampNeg ∧ (jm s.1).toNatClampNeg ≤ e + 1) : q ≤ (ds_step st jm s).1 ∧ (ds_step st jm s).1 ≤ e + 1 := by
  by_cases b : ds_br (st (s.1 * 4))
  · by_cases g : s.2.1 (ds_a st s.1) = 0
    · rw [ds_step_b0 b g]
      exact h (Or.inl b)
    · rw [ds_step_b1 b g]
      show q ≤ s.1 + 1 ∧ s.1 + 1 ≤ e + 1
      omega
  · by_cases j : ds_jp (st (s.1 * 4))
    · rw [ds_step_j b j]
      exact h (Or.inr j)
    · rw [ds_step_1 b j]
      omega
/-- n steps, fewer where the end is reached -/
noncomputable def ds_run (st jm : Nat → Int32) (L : Nat) : Nat → ds_S → ds_S
  | 0, s => s
  | n + 1, s => if s.1 < L then ds_run st jm L n (ds_step st jm s) else s
theorem ds_run_s {st jm : Nat → Int32} {L n : Nat} {s : ds_S} (h : s.1 < L) : ds_run st jm L (n + 1) s = ds_run st jm L n (ds_step st jm s) := if_pos h
theorem ds_run_e {st jm : Nat → Int32} {L : Nat} {s : ds_S} (h : ¬ s.1 < L) : ∀ n, ds_run st jm L n s = s := by
  intro n
  cases n with
  | zero => rfl
  | succ n => exact if_neg h
theorem ds_run_add {st jm : Nat → Int32} {L : Nat} : ∀ n m s, ds_run st jm L (n + m) s = ds_run st jm L m (ds_run st jm L n s) := by
  intro n
  induction n with
  | zero => intro m s; rw [Nat.zero_add]; rfl
  | succ n ih =>
    intro m s
    by_cases h : s.1 < L
    · rw [ds_run_s h, show n + 1 + m = (n + m) + 1 by omega, ds_run_s h, ih]
    · rw [ds_run_e h, ds_run_e h, ds_run_e h]
/-! the observer: low variables lv, low channels lc -/
def ds_FW (st : Nat → Int32) (lv lc : Nat → Prop) (i : Nat) : Prop := ¬ ds_br (st (i * 4)) ∧ ¬ ds_jp (st (i * 4)) ∧ ((st (i * 4) = 12 ∧ lc (ds_a st i)) ∨ (¬ st (i * 4) = 12 ∧ lv (ds_a st i)))
def ds_ok (s : ds_S) : Prop := ∀ c, c < 4 → ∃ n, n ≤ 16 ∧ s.2.2.2 c = nI n
/-- low parts alike -/
def ds_LE (lv lc : Nat → Prop) (s t : ds_S) : Prop := (∀ v, lv v → s.2.1 v = t.2.1 v) ∧ (∀ c, c < 4 → lc c → s.2.2.2 c = t.2.2.2 c ∧ ∀ i, i < ds_cn s.2.2.2 c → s.2.2.1 (c * 16 + i) = t.2.2.1 (c * 16 + i))
theorem ds_LE_r (lv lc : Nat → Prop) (s : ds_S) : ds_LE lv lc s s := ⟨fun _ _ => rfl, fun _ _ _ => ⟨rfl, fun _ _ => rfl⟩⟩
theorem ds_LE_s {lv lc : Nat → Prop} {s t : ds_S} (h : ds_LE lv lc s t) : ds_LE lv lc t s := by
  refine ⟨fun v hv => (h.1 v hv).symm, fun c hc hl => ⟨(h.2 c hc hl).1.symm, fun i hi => ((h.2 c hc hl).2 i ?_).symm⟩⟩
  unfold ds_cn at hi ⊢
  rw [(h.2 c hc hl).1]
  exact hi
theorem ds_LE_t {lv lc : Nat → Prop} {s t u : ds_S} (h : ds_LE lv lc s t) (g : ds_LE lv lc t u) : ds_LE lv lc s u := by
  refine ⟨fun v hv => (h.1 v hv).trans (g.1 v hv), fun c hc hl => ⟨(h.2 c hc hl).1.trans (g.2 c hc hl).1, fun i hi => ((h.2 c hc hl).2 i hi).trans ((g.2 c hc hl).2 i ?_)⟩⟩
  unfold ds_cn at hi ⊢
  rw [← (h.2 c hc hl).1]
  exact hi
theorem ds_LE_q {lv lc : Nat → Prop} {s t : ds_S} (h : s.2 = t.2) : ds_LE lv lc s t := by
  unfold ds_LE
  rw [h]
  exact ⟨fun _ _ => rfl, fun _ _ _ => ⟨rfl, fun _ _ => rfl⟩⟩
/-- what the second run shows holds all that the first one shows -/
def ds_EX (s t : ds_S) : Prop := ∀ c, c < 4 → ds_cn s.2.2.2 c ≤ ds_cn t.2.2.2 c ∧ ∀ i, i < ds_cn s.2.2.2 c → t.2.2.1 (c * 16 + i) = s.2.2.1 (c * 16 + i)
theorem ds_EX_q {s t : ds_S} (h : t.2.2 = s.2.2) : ds_EX s t := by
  intro c _
  rw [h]
  exact ⟨Nat.le_refl _, fun _ _ => rfl⟩
theorem ds_EX_t {s t u : ds_S} (h : ds_EX s t) (g : ds_EX t u) : ds_EX s u := fun c hc => ⟨Nat.le_trans (h c hc).1 (g c hc).1, fun i hi => ((g c hc).2 i (Nat.lt_of_lt_of_le hi (h c hc).1)).trans ((h c hc).2 i hi)⟩
theorem ds_cn_16 {s : ds_S} (h : ds_ok s) {c : Nat} (hc : c < 4) : ds_cn s.2.2.2 c ≤ 16 := by
  obtain ⟨n, hn, e⟩ := h c hc
  unfold ds_cn
  rw [e, nI_clamp (by omega)]
  exact hn
theorem ds_cn_u {oc : Nat → Int32} {a n : Nat} (hn : n < 2 ^ 31) : ds_cn (upd oc a (nI n)) a = n := by
  unfold ds_cn
  rw [pk_us, nI_clamp hn]
theorem ds_cn_n {oc : Nat → Int32} {a c : Nat} {x : Int32} (h : c ≠ a) : ds_cn (upd oc a x) c = ds_cn oc c := by
  unfold ds_cn
  rw [pk_un h]
theorem ds_step_ok {st jm : Nat → Int32} {s : ds_S} (h : ds_ok s) : ds_ok (ds_step st jm s) := by
  by_cases b : ds_br (st (s.1 * 4))
  · by_cases g : s.2.1 (ds_a st s.1) = 0
    · rw [ds_step_b0 b g]; exact h
    · rw [ds_step_b1 b g]; exact h
  · by_cases j : ds_jp (st (s.1 * 4))
    · rw [ds_step_j b j]; exact h
    · by_cases o : st (s.1 * 4) = 12
      · by_cases g : ds_cn s.2.2.2 (ds_a st s.1) < 16
        · rw [ds_step_o1 b j o g]
          intro c hc
          show ∃ n, n ≤ 16 ∧ upd s.2.2.2 (ds_a st s.1) (nI (ds_cn s.2.2.2 (ds_a st s.1) + 1)) c = nI n
          by_cases e : c = ds_a st s.1
          · rw [e, pk_us]
            exact ⟨_, by omega, rfl⟩
          · rw [pk_un e]
            exact h c hc
        · rw [ds_step_o0 b j o g]; exact h
      · rw [ds_step_w b j o]; exact h
theorem ds_step_ex {st jm : Nat → Int32} {s : ds_S} (h : ds_ok s) : ds_EX s (ds_step st jm s) := by
  by_cases b : ds_br (st (s.1 * 4))
  · by_cases g : s.2.1 (ds_a st s.1) = 0
    · rw [ds_step_b0 b g]; exact ds_EX_q rfl
    · rw [ds_step_b1 b g]; exact ds_EX_q rfl
  · by_cases j : ds_jp (st (s.1 * 4))
    · rw [ds_step_j b j]; exact ds_EX_q rfl
    · by_cases o : st (s.1 * 4) = 12
      · by_cases g : ds_cn s.2.2.2 (ds_a st s.1) < 16
        · rw [ds_step_o1 b j o g]
          intro c hc
          have h16 := ds_cn_16 h hc
          show ds_cn s.2.2.2 c ≤ ds_cn (upd s.2.2.2 (ds_a st s.1) (nI (ds_cn s.2.2.2 (ds_a st s.1) + 1))) c ∧ ∀ i, i < ds_cn s.2.2.2 c → upd s.2.2.1 (ds_a st s.1 * 16 + ds_cn s.2.2.2 (ds_a st s.1)) (s.2.1 (ds_b st s.1)) (c * 16 + i) = s.2.2.1 (c * 16 + i)
          by_cases e : c = ds_a st s.1
          · rw [← e] at g ⊢
            rw [ds_cn_u (by omega)]
            exact ⟨by omega, fun i hi => pk_un (by omega)⟩
          · rw [ds_cn_n e]
            exact ⟨Nat.le_refl _, fun i hi => pk_un (by omega)⟩
        · rw [ds_step_o0 b j o g]; exact ds_EX_q rfl
      · rw [ds_step_w b j o]; exact ds_EX_q rfl
theorem ds_run_x {st jm : Nat → Int32} {L : Nat} : ∀ n s, ds_ok s → ds_ok (ds_run st jm L n s) ∧ ds_EX s (ds_run st jm L n s) := by
  intro n
  induction n with
  | zero => intro s h; exact ⟨h, ds_EX_q rfl⟩
  | succ n ih =>
    intro s h
    by_cases l : s.1 < L
    · rw [ds_run_s l]
      have i1 := ih _ (ds_step_ok (st := st) (jm := jm) h)
      exact ⟨i1.1, ds_EX_t (ds_step_ex h) i1.2⟩
    · rw [ds_run_e l]
      exact ⟨h, ds_EX_q rfl⟩
/-- a statement that writes nothing low changes nothing low -/
theorem ds_step_hi {st jm : Nat → Int32} {lv lc : Nat → Prop} {s : ds_S} (k : ds_ok s) (h : ¬ ds_FW st lv lc s.1) : ds_LE lv lc s (ds_step st jm s) := by
  by_cases b : ds_br (st (s.1 * 4))
  · by_cases g : s.2.1 (ds_a st s.1) = 0
    · rw [ds_step_b0 b g]; exact ds_LE_q rfl
    · rw [ds_step_b1 b g]; exact ds_LE_q rfl
  · by_cases j : ds_jp (st (s.1 * 4))
    · rw [ds_step_j b j]; exact ds_LE_q rfl
    · by_cases o : st (s.1 * 4) = 12
      · by_cases g : ds_cn s.2.2.2 (ds_a st s.1) < 16
        · rw [ds_step_o1 b j o g]
          have nl : ¬ lc (ds_a st s.1) := fun z => h ⟨b, j, Or.inl ⟨o, z⟩⟩
          refine ⟨fun v _ => rfl, fun c hc hl => ?_⟩
          have e : c ≠ ds_a st s.1 := fun z => nl (z ▸ hl)
          have h16 := ds_cn_16 k hc
          exact ⟨(pk_un e).symm, fun i hi => (pk_un (by omega)).symm⟩
        · rw [ds_step_o0 b j o g]; exact ds_LE_q rfl
      · rw [ds_step_w b j o]
        have nl : ¬ lv (ds_a st s.1) := fun z => h ⟨b, j, Or.inr ⟨o, z⟩⟩
        refine ⟨fun v hv => ?_, fun _ _ _ => ⟨rfl, fun _ _ => rfl⟩⟩
        have e : v ≠ ds_a st s.1 := fun z => nl (z ▸ hv)
        exact (pk_un e).symm
/-! what a passed check says of the program -/
def ds_F1 (st : Nat → Int32) (lv lc : Nat → Prop) (i : Nat) : Prop := ds_FW st lv lc i → (¬ st (i * 4) = 1 → lv (ds_b st i)) ∧ ((st (i * 4) = 3 ∨ st (i * 4) = 4 ∨ st (i * 4) = 5 ∨ st (i * 4) = 6 ∨ st (i * 4) = 7) → lv (ds_c st i))
def ds_F3 (st jm : Nat → Int32) (L : Nat) (lv lc : Nat → Prop) (q : Nat) : Prop := ds_br (st (q * 4)) → ∃ e, q < e ∧ e < L ∧ (∀ i, q ≤ i → i ≤ e → (ds_br (st (i * 4)) ∨ ds_jp (st (i * 4))) → q ≤ (jm i).toNatClampNeg ∧ (jm i).toNatClampNeg ≤ e + 1) ∧ (¬ lv (ds_a st q) → ∀ i, q ≤ i → i ≤ e → ¬ ds_FW st lv lc i)
def ds_F (st jm : Nat → Int32) (L : Nat) (lv lc : Nat → Prop) : Prop := (∀ i, i < L → ds_F1 st lv lc i) ∧ (∀ q, q < L → ds_F3 st jm L lv lc q)
theorem ds_val_e {st va va' : Nat → Int32} {i : Nat} (h1 : ¬ st (i * 4) = 1 → va (ds_b st i) = va' (ds_b st i)) (h2 : (st (i * 4) = 3 ∨ st (i * 4) = 4 ∨ st (i * 4) = 5 ∨ st (i * 4) = 6 ∨ st (i * 4) = 7) → va (ds_c st i) = va' (ds_c st i)) : ds_val st va i = ds_val st va' i := by
  unfold ds_val
  by_cases k1 : st (i * 4) = 1
  · rw [if_pos k1, if_pos k1]
  · rw [if_neg k1, if_neg k1, h1 k1]
    by_cases k3 : st (i * 4) = 3
    · rw [if_pos k3, if_pos k3, h2 (Or.inl k3)]
    · rw [if_neg k3, if_neg k3]
      by_cases k4 : st (i * 4) = 4
      · rw [if_pos k4, if_pos k4, h2 (Or.inr (Or.inl k4))]
      · rw [if_neg k4, if_neg k4]
        by_cases k5 : st (i * 4) = 5
        · rw [if_pos k5, if_pos k5, h2 (Or.inr (Or.inr (Or.inl k5)))]
        · rw [if_neg k5, if_neg k5]
          by_cases k6 : st (i * 4) = 6
          · rw [if_pos k6, if_pos k6, h2 (Or.inr (Or.inr (Or.inr (Or.inl k6))))]
          · rw [if_neg k6, if_neg k6]
            by_cases k7 : st (i * 4) = 7
            · rw [if_pos k7, if_pos k7, h2 (Or.inr (Or.inr (Or.inr (Or.inr k7))))]
            · rw [if_neg k7, if_neg k7]
/-- two low-alike states at one place, where no high guard stands: one step keeps them so -/
theorem ds_step_lo {st jm : Nat → Int32} {lv lc : Nat → Prop} {s t : ds_S} (hl4 : ∀ c, lc c → c < 4) (ks : ds_ok s) (kt : ds_ok t) (eq : s.1 = t.1) (h : ds_LE lv lc s t) (f : ds_F1 st lv lc s.1) (g : ds_br (st (s.1 * 4)) → lv (ds_a st s.1)) : (ds_step st jm s).1 = (ds_step st jm t).1 ∧ ds_LE lv lc (ds_step st jm s) (ds_step st jm t) := by
  by_cases b : ds_br (st (s.1 * 4))
  · have bt : ds_br (st (t.1 * 4)) := by rw [← eq]; exact b
    have eg : s.2.1 (ds_a st s.1) = t.2.1 (ds_a st t.1) := by rw [← eq]; exact h.1 _ (g b)
    by_cases z : s.2.1 (ds_a st s.1) = 0
    · rw [ds_step_b0 b z, ds_step_b0 bt (eg ▸ z)]
      exact ⟨by show (jm s.1).toNatClampNeg = (jm t.1).toNatClampNeg; rw [eq], h⟩
    · rw [ds_step_b1 b z, ds_step_b1 bt (eg ▸ z)]
      exact ⟨by show s.1 + 1 = t.1 + 1; rw [eq], h⟩
  · have bt : ¬ ds_br (st (t.1 * 4)) := by rw [← eq]; exact b
    by_cases j : ds_jp (st (s.1 * 4))
    · have jt : ds_jp (st (t.1 * 4)) := by rw [← eq]; exact j
      rw [ds_step_j b j, ds_step_j bt jt]
      exact ⟨by show (jm s.1).toNatClampNeg = (jm t.1).toNatClampNeg; rw [eq], h⟩
    · by_cases fw : ds_FW st lv lc s.1
      · have jt : ¬ ds_jp (st (t.1 * 4)) := by rw [← eq]; exact j
        have f1 := f fw
        by_cases o : st (s.1 * 4) = 12
        · have ot : st (t.1 * 4) = 12 := by rw [← eq]; exact o
          have la : lc (ds_a st s.1) := by
            rcases fw.2.2 with w | w
            · exact w.2
            · exact absurd o w.1
          have lb : lv (ds_b st s.1) := f1.1 (by rw [o]; decide)
          have ec : ∀ c, c < 4 → lc c → ds_cn s.2.2.2 c = ds_cn t.2.2.2 c := by
            intro c hc hl
            unfold ds_cn
            rw [(h.2 c hc hl).1]
          have a4 := hl4 _ la
          have ea := ec _ a4 la
          by_cases z : ds_cn s.2.2.2 (ds_a st s.1) < 16
          · rw [ds_step_o1 b j o z, ds_step_o1 bt jt ot (by rw [← eq, ← ea]; exact z), ← eq, ← ea, ← h.1 _ lb]
            refine ⟨rfl, h.1, fun c hc hl => ?_⟩
            have h16 := ds_cn_16 ks hc
            have hh := h.2 c hc hl
            by_cases e : c = ds_a st s.1
            · subst e
              refine ⟨by show upd _ _ _ _ = upd _ _ _ _; rw [pk_us, pk_us], fun i hi => ?_⟩
              have hi2 : i < ds_cn s.2.2.2 (ds_a st s.1) + 1 := by
                have w : ds_cn (upd s.2.2.2 (ds_a st s.1) (nI (ds_cn s.2.2.2 (ds_a st s.1) + 1))) (ds_a st s.1) = ds_cn s.2.2.2 (ds_a st s.1) + 1 := ds_cn_u (by omega)
                rw [← w]
                exact hi
              show upd s.2.2.1 _ _ _ = upd t.2.2.1 _ _ _
              by_cases x : i = ds_cn s.2.2.2 (ds_a st s.1)
              · rw [x, pk_us, pk_us]
              · rw [pk_un (by omega), pk_un (by omega)]
                exact hh.2 i (by omega)
            · refine ⟨by show upd _ _ _ _ = upd _ _ _ _; rw [pk_un e, pk_un e]; exact hh.1, fun i hi => ?_⟩
              have hi2 : i < ds_cn s.2.2.2 c := by
                have w := ds_cn_n (oc := s.2.2.2) (x := nI (ds_cn s.2.2.2 (ds_a st s.1) + 1)) e
                rw [← w]
                exact hi
              show upd s.2.2.1 _ _ _ = upd t.2.2.1 _ _ _
              rw [pk_un (by omega), pk_un (by omega)]
              exact hh.2 i hi2
          · rw [ds_step_o0 b j o z, ds_step_o0 bt jt ot (by rw [← eq, ← ea]; exact z)]
            exact ⟨by show s.1 + 1 = t.1 + 1; rw [eq], h⟩
        · have ot : ¬ st (t.1 * 4) = 12 := by rw [← eq]; exact o
          have la : lv (ds_a st s.1) := by
            rcases fw.2.2 with w | w
            · exact absurd w.1 o
            · exact w.2
          have ev : ds_val st s.2.1 s.1 = ds_val st t.2.1 s.1 := ds_val_e (fun z => h.1 _ (f1.1 z)) (fun z => h.1 _ (f1.2 z))
          rw [ds_step_w b j o, ds_step_w bt jt ot, ← eq, ← ev]
          refine ⟨rfl, fun v hv => ?_, h.2⟩
          show upd s.2.1 (ds_a st s.1) _ v = upd t.2.1 (ds_a st s.1) _ v
          by_cases e : v = ds_a st s.1
          · rw [e, pk_us, pk_us]
          · rw [pk_un e, pk_un e]
            exact h.1 v hv
      · have ft : ¬ ds_FW st lv lc t.1 := by rw [← eq]; exact fw
        have jt : ¬ ds_jp (st (t.1 * 4)) := by rw [← eq]; exact j
        refine ⟨?_, ds_LE_t (ds_LE_s (ds_step_hi ks fw)) (ds_LE_t h (ds_step_hi kt ft))⟩
        rw [ds_step_1 b j, ds_step_1 bt jt, eq]
/-- in a block without low writes: out behind its end, or still inside -/
theorem ds_region {st jm : Nat → Int32} {lv lc : Nat → Prop} {L q e : Nat} (he : e < L) (h1 : ∀ i, q ≤ i → i ≤ e → (ds_br (st (i * 4)) ∨ ds_jp (st (i * 4))) → q ≤ (jm i).toNatClampNeg ∧ (jm i).toNatClampNeg ≤ e + 1) (h2 : ∀ i, q ≤ i → i ≤ e → ¬ ds_FW st lv lc i) : ∀ n s, ds_ok s → q ≤ s.1 → s.1 ≤ e → (∃ k, 1 ≤ k ∧ k ≤ n ∧ (ds_run st jm L k s).1 = e + 1 ∧ ds_LE lv lc s (ds_run st jm L k s)) ∨ ((ds_run st jm L n s).1 ≤ e ∧ ds_LE lv lc s (ds_run st jm L n s)) := by
  intro n
  induction n with
  | zero => intro s _ _ he2; exact Or.inr ⟨he2, ds_LE_r _ _ _⟩
  | succ n ih =>
    intro s ks a1 a2
    have l : s.1 < L := by omega
    have hl := ds_step_hi (jm := jm) ks (h2 s.1 a1 a2)
    have nx := ds_next (jm := jm) (q := q) (e := e) a1 a2 (h1 s.1 a1 a2)
    have ok := ds_step_ok (st := st) (jm := jm) ks
    by_cases x : (ds_step st jm s).1 = e + 1
    · refine Or.inl ⟨1, by omega, by omega, ?_, ?_⟩
      · rw [ds_run_s l]; exact x
      · rw [ds_run_s l]; exact hl
    · rcases ih _ ok nx.1 (by omega) with ⟨k, k1, k2, k3, k4⟩ | ⟨k3, k4⟩
      · refine Or.inl ⟨k + 1, by omega, by omega, ?_, ?_⟩
        · rw [ds_run_s l]; exact k3
        · rw [ds_run_s l]; exact ds_LE_t hl k4
      · refine Or.inr ⟨?_, ?_⟩
        · rw [ds_run_s l]; exact k3
        · rw [ds_run_s l]; exact ds_LE_t hl k4
/-- what the law compares -/
def ds_R (L : Nat) (lc : Nat → Prop) (s t : ds_S) : Prop := ∀ c, c < 4 → lc c → (∀ i, i < ds_cn s.2.2.2 c → i < ds_cn t.2.2.2 c → s.2.2.1 (c * 16 + i) = t.2.2.1 (c * 16 + i)) ∧ (¬ s.1 < L → ¬ t.1 < L → s.2.2.2 c = t.2.2.2 c)
theorem ds_R_s {L : Nat} {lc : Nat → Prop} {s t : ds_S} (h : ds_R L lc s t) : ds_R L lc t s := fun c hc hl => ⟨fun i a b => ((h c hc hl).1 i b a).symm, fun a b => ((h c hc hl).2 b a).symm⟩
/-- s' shows what s shows, and hasn't halted; t' shows more than t, which is like s -/
theorem ds_R_1 {L : Nat} {lv lc : Nat → Prop} {s s' t t' : ds_S} (h : ds_LE lv lc s t) (h1 : ds_LE lv lc s s') (h2 : ds_EX t t') (h3 : s'.1 < L) : ds_R L lc s' t' := by
  have g := ds_LE_t (ds_LE_s h1) h
  intro c hc hl
  refine ⟨fun i a b => ?_, fun a => absurd h3 a⟩
  have a' : i < ds_cn t.2.2.2 c := by
    unfold ds_cn at a ⊢
    rw [← (g.2 c hc hl).1]
    exact a
  exact ((g.2 c hc hl).2 i a).trans ((h2 c hc).2 i a').symm
theorem ds_R_0 {L : Nat} {lv lc : Nat → Prop} {s t : ds_S} (h : ds_LE lv lc s t) : ds_R L lc s t := fun c hc hl => ⟨fun i a _ => (h.2 c hc hl).2 i a, fun _ _ => (h.2 c hc hl).1⟩
theorem ds_main {st jm : Nat → Int32} {L : Nat} {lv lc : Nat → Prop} (hl4 : ∀ c, lc c → c < 4) (F : ds_F st jm L lv lc) : ∀ N n m s t, n + m ≤ N → ds_ok s → ds_ok t → s.1 = t.1 → ds_LE lv lc s t → ds_R L lc (ds_run st jm L n s) (ds_run st jm L m t) := by
  intro N
  induction N with
  | zero =>
    intro n m s t hN ks kt eq h
    have e1 : n = 0 := by omega
    have e2 : m = 0 := by omega
    subst e1 e2
    exact ds_R_0 h
  | succ N ih =>
    intro n m s t hN ks kt eq h
    by_cases l : s.1 < L
    · have lt : t.1 < L := by omega
      rcases Nat.eq_zero_or_pos n with n0 | n0
      · subst n0
        exact ds_R_1 h (ds_LE_r _ _ _) (ds_run_x m t kt).2 l
      · rcases Nat.eq_zero_or_pos m with m0 | m0
        · subst m0
          exact ds_R_s (ds_R_1 (ds_LE_s h) (ds_LE_r _ _ _) (ds_run_x n s ks).2 lt)
        · by_cases g : ds_br (st (s.1 * 4)) ∧ ¬ lv (ds_a st s.1)
          · obtain ⟨e, e1, e2, e3, e4⟩ := F.2 s.1 l g.1
            have e5 := e4 g.2
            rcases ds_region e2 e3 e5 n s ks (Nat.le_refl _) (by omega) with ⟨k, k1, k2, k3, k4⟩ | ⟨k3, k4⟩
            · rcases ds_region e2 e3 e5 m t kt (by omega) (by omega) with ⟨k', k1', k2', k3', k4'⟩ | ⟨k3', k4'⟩
              · have i1 := ih (n - k) (m - k') _ _ (by omega) (ds_run_x (st := st) (jm := jm) (L := L) k s ks).1 (ds_run_x (st := st) (jm := jm) (L := L) k' t kt).1 (k3.trans k3'.symm) (ds_LE_t (ds_LE_s k4) (ds_LE_t h k4'))
                rw [← ds_run_add, ← ds_run_add, show k + (n - k) = n by omega, show k' + (m - k') = m by omega] at i1
                exact i1
              · exact ds_R_s (ds_R_1 (ds_LE_s h) k4' (ds_run_x n s ks).2 (by omega))
            · exact ds_R_1 h k4 (ds_run_x m t kt).2 (by omega)
          · have g' : ds_br (st (s.1 * 4)) → lv (ds_a st s.1) := fun z => Classical.byContradiction fun w => g ⟨z, w⟩
            obtain ⟨n', rfl⟩ : ∃ n', n = n' + 1 := ⟨n - 1, by omega⟩
            obtain ⟨m', rfl⟩ : ∃ m', m = m' + 1 := ⟨m - 1, by omega⟩
            have sl := ds_step_lo (jm := jm) hl4 ks kt eq h (F.1 s.1 l) g'
            rw [ds_run_s l, ds_run_s lt]
            exact ih n' m' _ _ (by omega) (ds_step_ok ks) (ds_step_ok kt) sl.1 sl.2
    · have lt : ¬ t.1 < L := by omega
      rw [ds_run_e l, ds_run_e lt]
      exact ds_R_0 h
