/-! what a check keeps while it scans: blocks, jumps, low writes; no print in this part -/
def ds_ct (st : Nat → Int32) (q : Nat) : Prop := ds_br (st (q * 4)) ∨ ds_jp (st (q * 4))
def ds_on (op : Nat → Int32) (d : Nat) : Nat := (op d).toNatClampNeg
def ds_cl (st : Nat → Int32) (lv lc : Nat → Prop) (i D : Nat) (op el jm : Nat → Int32) (q : Nat) : Prop := ∃ e, q < e ∧ e < i ∧ (∀ d, d < D → ¬ (q ≤ ds_on op d ∧ ds_on op d ≤ e) ∧ ∀ m, el d = nI m → ¬ (q ≤ m ∧ m ≤ e)) ∧ (∀ j, q ≤ j → j ≤ e → ds_ct st j → ∃ r, jm j = nI r ∧ q ≤ r ∧ r ≤ e + 1) ∧ (¬ lv (ds_a st q) → ∀ j, q ≤ j → j ≤ e → ¬ ds_FW st lv lc j)
def ds_N (st : Nat → Int32) (lv lc : Nat → Prop) (i D : Nat) (op el jm : Nat → Int32) : Prop :=
  (∀ d, d < D → op d = nI (ds_on op d) ∧ ds_on op d < i ∧ ds_br (st (ds_on op d * 4)))
  ∧ (∀ d d', d < d' → d' < D → ds_on op d < ds_on op d')
  ∧ (∀ d, d < D → el d = -1 ∨ ∃ m, el d = nI m ∧ ds_on op d < m ∧ m < i ∧ ∀ d', d < d' → d' < D → m < ds_on op d')
  ∧ (∀ q, q < i → ds_ct st q → (∃ d, d < D ∧ (ds_on op d = q ∨ el d = nI q)) ∨ ∃ r, jm q = nI r ∧ r ≤ i ∧ ∀ d, d < D → ds_on op d ≤ q → ds_on op d ≤ r)
  ∧ (∀ q, q < i → ds_br (st (q * 4)) → (∃ d, d < D ∧ ds_on op d = q) ∨ ds_cl st lv lc i D op el jm q)
  ∧ (∀ d, d < D → ¬ lv (ds_a st (ds_on op d)) → ∀ j, ds_on op d ≤ j → j < i → ¬ ds_FW st lv lc j)
  ∧ (∀ j, j < i → ds_F1 st lv lc j)
theorem ds_m1 {m : Nat} (h : m < 2 ^ 31) : ¬ (-1 : Int32) = nI m := by
  intro z
  have t := congrArg Int32.toInt z
  rw [nI_toInt h] at t
  have e : (-1 : Int32).toInt = -1 := by decide
  omega
theorem ds_nFW_c {st : Nat → Int32} {lv lc : Nat → Prop} {i : Nat} (h : ds_ct st i) : ¬ ds_FW st lv lc i := fun z => h.elim z.1 z.2.1
theorem ds_N0 (st : Nat → Int32) (lv lc : Nat → Prop) (op el jm : Nat → Int32) : ds_N st lv lc 0 0 op el jm := ⟨fun d h => absurd h (by omega), fun d d' _ h => absurd h (by omega), fun d h => absurd h (by omega), fun q h => absurd h (by omega), fun q h => absurd h (by omega), fun d h => absurd h (by omega), fun j h => absurd h (by omega)⟩
theorem ds_cl_up {st : Nat → Int32} {lv lc : Nat → Prop} {i D : Nat} {op el jm : Nat → Int32} {q : Nat} (h : ds_cl st lv lc i D op el jm q) : ds_cl st lv lc (i + 1) D op el jm q := by
  obtain ⟨e, e1, e2, e3, e4, e5⟩ := h
  exact ⟨e, e1, by omega, e3, e4, e5⟩
theorem ds_N_n {st : Nat → Int32} {lv lc : Nat → Prop} {i D : Nat} {op el jm : Nat → Int32} (N : ds_N st lv lc i D op el jm) (k : ¬ ds_ct st i) (f1 : ds_F1 st lv lc i) (fw : ∀ d, d < D → ¬ lv (ds_a st (ds_on op d)) → ¬ ds_FW st lv lc i) : ds_N st lv lc (i + 1) D op el jm := by
  obtain ⟨a1, a2, a3, a4, a5, a6, a7⟩ := N
  refine ⟨fun d hd => ⟨(a1 d hd).1, by have := (a1 d hd).2.1; omega, (a1 d hd).2.2⟩, a2, fun d hd => ?_, fun q hq hc => ?_, fun q hq hb => ?_, fun d hd hl j j1 j2 => ?_, fun j hj => ?_⟩
  · rcases a3 d hd with z | ⟨m, m1, m2, m3, m4⟩
    · exact Or.inl z
    · exact Or.inr ⟨m, m1, m2, by omega, m4⟩
  · by_cases e : q = i
    · subst e
      exact absurd hc k
    · rcases a4 q (by omega) hc with z | ⟨r, r1, r2, r3⟩
      · exact Or.inl z
      · exact Or.inr ⟨r, r1, by omega, r3⟩
  · by_cases e : q = i
    · subst e
      exact absurd (Or.inl hb) k
    · rcases a5 q (by omega) hb with z | z
      · exact Or.inl z
      · exact Or.inr (ds_cl_up z)
  · by_cases e : j = i
    · subst e
      exact fw d hd hl
    · exact a6 d hd hl j j1 (by omega)
  · by_cases e : j = i
    · subst e
      exact f1
    · exact a7 j (by omega)
theorem ds_N_o {st : Nat → Int32} {lv lc : Nat → Prop} {i D : Nat} {op el jm : Nat → Int32} (hi : i < 2 ^ 31) (N : ds_N st lv lc i D op el jm) (k : ds_br (st (i * 4))) : ds_N st lv lc (i + 1) (D + 1) (upd op D (nI i)) (upd el D (-1)) jm := by
  obtain ⟨a1, a2, a3, a4, a5, a6, a7⟩ := N
  have u0 : ∀ d, d < D → upd op D (nI i) d = op d := fun d hd => if_neg (by omega)
  have u1 : ∀ d, d < D → ds_on (upd op D (nI i)) d = ds_on op d := fun d hd => by
    unfold ds_on
    rw [u0 d hd]
  have u2 : ∀ d, d < D → upd el D (-1) d = el d := fun d hd => if_neg (by omega)
  have u3 : upd op D (nI i) D = nI i := if_pos rfl
  have u4 : upd el D (-1) D = -1 := if_pos rfl
  have u5 : ds_on (upd op D (nI i)) D = i := by
    unfold ds_on
    rw [u3, nI_clamp hi]
  have nf : ¬ ds_FW st lv lc i := ds_nFW_c (Or.inl k)
  have hD : ∀ d, d < D + 1 → d < D ∨ d = D := fun d hd => by omega
  refine ⟨fun d hd => ?_, fun d d' h1 h2 => ?_, fun d hd => ?_, fun q hq hc => ?_, fun q hq hb => ?_, fun d hd hl j j1 j2 => ?_, fun j hj => ?_⟩
  · rcases hD d hd with h | h
    · rw [u1 d h, u0 d h]
      exact ⟨(a1 d h).1, by have := (a1 d h).2.1; omega, (a1 d h).2.2⟩
    · subst h
      rw [u5, u3]
      exact ⟨rfl, by omega, k⟩
  · rcases hD d' h2 with h | h
    · rw [u1 d (by omega), u1 d' h]
      exact a2 d d' h1 h
    · subst h
      rw [u1 d h1, u5]
      exact (a1 d h1).2.1
  · rcases hD d hd with h | h
    · rw [u2 d h, u1 d h]
      rcases a3 d h with z | ⟨m, m1, m2, m3, m4⟩
      · exact Or.inl z
      · refine Or.inr ⟨m, m1, m2, by omega, fun d' h1 h2 => ?_⟩
        rcases hD d' h2 with h' | h'
        · rw [u1 d' h']
          exact m4 d' h1 h'
        · subst h'
          rw [u5]
          exact m3
    · subst h
      exact Or.inl u4
  · by_cases e : q = i
    · subst e
      exact Or.inl ⟨D, by omega, Or.inl u5⟩
    · rcases a4 q (by omega) hc with ⟨d, d1, d2⟩ | ⟨r, r1, r2, r3⟩
      · exact Or.inl ⟨d, by omega, by rw [u1 d d1, u2 d d1]; exact d2⟩
      · refine Or.inr ⟨r, r1, by omega, fun d hd => ?_⟩
        rcases hD d hd with h | h
        · rw [u1 d h]
          exact r3 d h
        · subst h
          rw [u5]
          intro z
          omega
  · by_cases e : q = i
    · subst e
      exact Or.inl ⟨D, by omega, u5⟩
    · rcases a5 q (by omega) hb with ⟨d, d1, d2⟩ | ⟨e, e1, e2, e3, e4, e5⟩
      · exact Or.inl ⟨d, by omega, by rw [u1 d d1]; exact d2⟩
      · refine Or.inr ⟨e, e1, by omega, fun d hd => ?_, e4, e5⟩
        rcases hD d hd with h | h
        · rw [u1 d h, u2 d h]
          exact e3 d h
        · subst h
          rw [u5, u4]
          exact ⟨fun z => by omega, fun m hm z => ds_m1 (by omega) hm⟩
  · by_cases e : j = i
    · subst e
      exact nf
    · rcases hD d hd with h | h
      · rw [u1 d h] at hl j1
        exact a6 d h hl j j1 (by omega)
      · subst h
        rw [u5] at j1
        omega
  · by_cases e : j = i
    · subst e
      exact fun z => absurd z nf
    · exact a7 j (by omega)
theorem ds_N_e {st : Nat → Int32} {lv lc : Nat → Prop} {i D : Nat} {op el jm : Nat → Int32} (hi : i < 2 ^ 31) (N : ds_N st lv lc i (D + 1) op el jm) (k : st (i * 4) = 9) (hn : el D = -1) : ds_N st lv lc (i + 1) (D + 1) op (upd el D (nI i)) jm := by
  obtain ⟨a1, a2, a3, a4, a5, a6, a7⟩ := N
  have u2 : ∀ d, d < D → upd el D (nI i) d = el d := fun d hd => if_neg (by omega)
  have u4 : upd el D (nI i) D = nI i := if_pos rfl
  have nb : ¬ ds_br (st (i * 4)) := by
    rw [k]
    unfold ds_br
    decide
  have nf : ¬ ds_FW st lv lc i := ds_nFW_c (Or.inr (Or.inl k))
  have hD : ∀ d, d < D + 1 → d < D ∨ d = D := fun d hd => by omega
  refine ⟨fun d hd => ⟨(a1 d hd).1, by have := (a1 d hd).2.1; omega, (a1 d hd).2.2⟩, a2, fun d hd => ?_, fun q hq hc => ?_, fun q hq hb => ?_, fun d hd hl j j1 j2 => ?_, fun j hj => ?_⟩
  · rcases hD d hd with h | h
    · rw [u2 d h]
      rcases a3 d hd with z | ⟨m, m1, m2, m3, m4⟩
      · exact Or.inl z
      · exact Or.inr ⟨m, m1, m2, by omega, m4⟩
    · subst h
      exact Or.inr ⟨i, u4, (a1 d hd).2.1, by omega, fun d' h1 h2 => by omega⟩
  · by_cases e : q = i
    · subst e
      exact Or.inl ⟨D, by omega, Or.inr u4⟩
    · rcases a4 q (by omega) hc with ⟨d, d1, d2⟩ | ⟨r, r1, r2, r3⟩
      · rcases hD d d1 with h | h
        · exact Or.inl ⟨d, d1, by rw [u2 d h]; exact d2⟩
        · subst h
          rcases d2 with z | z
          · exact Or.inl ⟨d, d1, Or.inl z⟩
          · rw [hn] at z
            exact absurd z (ds_m1 (by omega))
      · exact Or.inr ⟨r, r1, by omega, r3⟩
  · by_cases e : q = i
    · subst e
      exact absurd hb nb
    · rcases a5 q (by omega) hb with z | ⟨e, e1, e2, e3, e4, e5⟩
      · exact Or.inl z
      · refine Or.inr ⟨e, e1, by omega, fun d hd => ⟨(e3 d hd).1, ?_⟩, e4, e5⟩
        rcases hD d hd with h | h
        · rw [u2 d h]
          exact (e3 d hd).2
        · subst h
          rw [u4]
          intro m hm z
          have t := (nI_eq (by omega) (by omega)).mp hm
          omega
  · by_cases e : j = i
    · subst e
      exact nf
    · exact a6 d hd hl j j1 (by omega)
  · by_cases e : j = i
    · subst e
      exact fun z => absurd z nf
    · exact a7 j (by omega)
/-- closing the innermost block at an END -/
theorem ds_N_x {st : Nat → Int32} {lv lc : Nat → Prop} {i D : Nat} {op el jm jm' : Nat → Int32} (hi : i < 2 ^ 31) (N : ds_N st lv lc i (D + 1) op el jm) (k : st (i * 4) = 10) (h1 : ∃ r, jm' i = nI r ∧ ds_on op D ≤ r ∧ r ≤ i + 1) (h2 : ∃ r, jm' (ds_on op D) = nI r ∧ ds_on op D ≤ r ∧ r ≤ i + 1) (h3 : ∀ m, m < i → el D = nI m → ∃ r, jm' m = nI r ∧ ds_on op D ≤ r ∧ r ≤ i + 1) (h4 : ∀ j, j < i → ¬ ds_on op D = j → ¬ el D = nI j → jm' j = jm j) : ds_N st lv lc (i + 1) D op el jm' := by
  obtain ⟨a1, a2, a3, a4, a5, a6, a7⟩ := N
  have oD := a1 D (by omega)
  have nb : ¬ ds_br (st (i * 4)) := by
    rw [k]
    unfold ds_br
    decide
  have nf : ¬ ds_FW st lv lc i := ds_nFW_c (Or.inr (Or.inr k))
  have hD : ∀ d, d < D + 1 → d < D ∨ d = D := fun d hd => by omega
  have lt : ∀ d, d < D → ds_on op d < ds_on op D := fun d hd => a2 d D hd (by omega)
  have el' : ∀ d, d < D → ∀ m, m < i → el d = nI m → m < ds_on op D := by
    intro d hd m hm z
    rcases a3 d (by omega) with w | ⟨m', m1, m2, m3, m4⟩
    · rw [w] at z
      exact absurd z (ds_m1 (by omega))
    · rw [m1] at z
      have t := (nI_eq (by omega) (by omega)).mp z
      have t2 := m4 D hd (by omega)
      omega
  refine ⟨fun d hd => ?_, fun d d' x y => a2 d d' x (by omega), fun d hd => ?_, fun q hq hc => ?_, fun q hq hb => ?_, fun d hd hl j j1 j2 => ?_, fun j hj => ?_⟩
  · have t := a1 d (by omega)
    exact ⟨t.1, by omega, t.2.2⟩
  · rcases a3 d (by omega) with z | ⟨m, m1, m2, m3, m4⟩
    · exact Or.inl z
    · exact Or.inr ⟨m, m1, m2, by omega, fun d' x y => m4 d' x (by omega)⟩
  · have fin : (∃ r, jm' q = nI r ∧ ds_on op D ≤ r ∧ r ≤ i + 1) → ∃ r, jm' q = nI r ∧ r ≤ i + 1 ∧ ∀ d, d < D → ds_on op d ≤ q → ds_on op d ≤ r := by
      rintro ⟨r, r1, r2, r3⟩
      exact ⟨r, r1, r3, fun d hd _ => by have := lt d hd; omega⟩
    by_cases e : q = i
    · subst e
      exact Or.inr (fin h1)
    · by_cases e2 : ds_on op D = q
      · exact Or.inr (fin (e2 ▸ h2))
      · by_cases e3 : el D = nI q
        · exact Or.inr (fin (h3 q (by omega) e3))
        · rw [h4 q (by omega) e2 e3]
          rcases a4 q (by omega) hc with ⟨d, d1, d2⟩ | ⟨r, r1, r2, r3⟩
          · rcases hD d d1 with h | h
            · exact Or.inl ⟨d, h, d2⟩
            · subst h
              exact absurd d2 (fun z => z.elim e2 e3)
          · exact Or.inr ⟨r, r1, by omega, fun d hd => r3 d (by omega)⟩
  · by_cases e : q = i
    · subst e
      exact absurd hb nb
    · by_cases e2 : ds_on op D = q
      · subst e2
        refine Or.inr ⟨i, oD.2.1, by omega, fun d hd => ⟨fun z => ?_, fun m hm z => ?_⟩, fun j j1 j2 hc => ?_, fun hl j j1 j2 => ?_⟩
        · have := lt d hd
          omega
        · rcases a3 d (by omega) with w | ⟨m', m1, m2, m3, m4⟩
          · rw [w] at hm
            exact absurd hm (ds_m1 (by omega))
          · rw [m1] at hm
            have t := (nI_eq (by omega) (by omega)).mp hm
            have t2 := m4 D hd (by omega)
            omega
        · by_cases f : j = i
          · subst f
            exact h1
          · by_cases f2 : ds_on op D = j
            · rw [← f2]
              exact h2
            · by_cases f3 : el D = nI j
              · exact h3 j (by omega) f3
              · rw [h4 j (by omega) f2 f3]
                rcases a4 j (by omega) hc with ⟨d, d1, d2⟩ | ⟨r, r1, r2, r3⟩
                · rcases hD d d1 with h | h
                  · have l1 := lt d h
                    rcases d2 with z | z
                    · omega
                    · have l2 := el' d h j (by omega) z
                      omega
                  · subst h
                    exact absurd d2 (fun z => z.elim f2 f3)
                · exact ⟨r, r1, r3 D (by omega) j1, by omega⟩
        · by_cases f : j = i
          · subst f
            exact nf
          · exact a6 D (by omega) hl j j1 (by omega)
      · rcases a5 q (by omega) hb with ⟨d, d1, d2⟩ | ⟨e', e1, e2', e3, e4, e5⟩
        · rcases hD d d1 with h | h
          · exact Or.inl ⟨d, h, d2⟩
          · subst h
            exact absurd d2 e2
        · refine Or.inr ⟨e', e1, by omega, fun d hd => e3 d (by omega), fun j j1 j2 hc => ?_, e5⟩
          have w := e3 D (by omega)
          rw [h4 j (by omega) (fun z => w.1 (by omega)) (fun z => w.2 j z ⟨j1, j2⟩)]
          exact e4 j j1 j2 hc
  · by_cases e : j = i
    · subst e
      exact nf
    · exact a6 d (by omega) hl j j1 (by omega)
  · by_cases e : j = i
    · subst e
      exact fun z => absurd z nf
    · exact a7 j (by omega)
/-- a check that passed: what the two runs rest on -/
theorem ds_N_fin {st : Nat → Int32} {lv lc : Nat → Prop} {L : Nat} {op el jm : Nat → Int32} (hL : L < 2 ^ 31) (N : ds_N st lv lc L 0 op el jm) : ds_F st jm L lv lc ∧ ∀ q, q < L → ds_ct st q → ∃ r, jm q = nI r ∧ r ≤ L := by
  obtain ⟨a1, a2, a3, a4, a5, a6, a7⟩ := N
  refine ⟨⟨a7, fun q hq hb => ?_⟩, fun q hq hc => ?_⟩
  · rcases a5 q hq hb with ⟨d, hd, _⟩ | ⟨e, e1, e2, e3, e4, e5⟩
    · omega
    · refine ⟨e, e1, e2, fun i i1 i2 hc => ?_, e5⟩
      obtain ⟨r, r1, r2, r3⟩ := e4 i i1 i2 hc
      rw [r1, nI_clamp (by omega)]
      exact ⟨r2, r3⟩
  · rcases a4 q hq hc with ⟨d, hd, _⟩ | ⟨r, r1, r2, _⟩
    · omega
    · exact ⟨r, r1, r2⟩
