/-! the blocks of a program: where the scans lead, and what a check knows of them; no print in this part -/
theorem dl_m1n {m : Nat} (h : m < 2 ^ 31) : ¬ (-1 : Int32) = nI m := by
  intro z
  have t := congrArg Int32.toInt z
  rw [nI_toInt h] at t
  have e : (-1 : Int32).toInt = -1 := by decide
  omega
def dl_sc (sk : Nat → Int32) (we : Bool) : Nat → Nat → Nat → Int32
  | 0, _, _ => -1
  | n + 1, j, d => if sk j = 8 ∨ sk j = 11 then dl_sc sk we n (j + 1) (d + 1) else if sk j = 10 then (if d = 0 then (if we = true then -1 else nI j) else dl_sc sk we n (j + 1) (d - 1)) else if sk j = 9 ∧ d = 0 ∧ we = true then nI j else dl_sc sk we n (j + 1) d
def dl_sf (sk : Nat → Int32) (len : Nat) (we : Bool) (j d : Nat) : Int32 := dl_sc sk we (len - j) j d
def dl_sb (sk : Nat → Int32) : Nat → Nat → Int32
  | 0, _ => -1
  | i + 1, d => if sk i = 10 then dl_sb sk i (d + 1) else if sk i = 8 ∨ sk i = 11 then (if d = 0 then nI i else dl_sb sk i (d - 1)) else dl_sb sk i d
theorem dl_sf_u {sk : Nat → Int32} {len : Nat} {we : Bool} {j d : Nat} (h : j < len) : dl_sf sk len we j d = if sk j = 8 ∨ sk j = 11 then dl_sf sk len we (j + 1) (d + 1) else if sk j = 10 then (if d = 0 then (if we = true then -1 else nI j) else dl_sf sk len we (j + 1) (d - 1)) else if sk j = 9 ∧ d = 0 ∧ we = true then nI j else dl_sf sk len we (j + 1) d := by
  unfold dl_sf
  obtain ⟨n, hn⟩ : ∃ n, len - j = n + 1 := ⟨len - j - 1, by omega⟩
  have e : len - (j + 1) = n := by omega
  rw [hn, e]
  rfl
theorem dl_sf_e {sk : Nat → Int32} {len : Nat} {we : Bool} {j d : Nat} (h : len ≤ j) : dl_sf sk len we j d = -1 := by
  unfold dl_sf
  have e : len - j = 0 := by omega
  rw [e]
  rfl
/-- the four sorts of kinds -/
def dl_op (k : Int32) : Prop := k = 8 ∨ k = 11
theorem dl_op9 {k : Int32} (h : k = 9) : ¬ (k = 8 ∨ k = 11) := by subst h; decide
theorem dl_op10 {k : Int32} (h : k = 10) : ¬ (k = 8 ∨ k = 11) := by subst h; decide
theorem dl_o10 {k : Int32} (h : k = 8 ∨ k = 11) : ¬ k = 10 := by rcases h with h | h <;> subst h <;> decide
theorem dl_o9 {k : Int32} (h : k = 8 ∨ k = 11) : ¬ k = 9 := by rcases h with h | h <;> subst h <;> decide
theorem dl_910 {k : Int32} (h : k = 9) : ¬ k = 10 := by subst h; decide
theorem dl_sf_o {sk : Nat → Int32} {len : Nat} {we : Bool} {j d : Nat} (h : j < len) (k : sk j = 8 ∨ sk j = 11) : dl_sf sk len we j d = dl_sf sk len we (j + 1) (d + 1) := by
  rw [dl_sf_u h, if_pos k]
theorem dl_sf_n {sk : Nat → Int32} {len : Nat} {we : Bool} {j d : Nat} (h : j < len) (k1 : ¬ (sk j = 8 ∨ sk j = 11)) (k2 : ¬ sk j = 10) (k3 : ¬ sk j = 9) : dl_sf sk len we j d = dl_sf sk len we (j + 1) d := by
  rw [dl_sf_u h, if_neg k1, if_neg k2, if_neg (fun z => k3 z.1)]
theorem dl_sf_9 {sk : Nat → Int32} {len : Nat} {we : Bool} {j d : Nat} (h : j < len) (k : sk j = 9) (z : ¬ (d = 0 ∧ we = true)) : dl_sf sk len we j d = dl_sf sk len we (j + 1) d := by
  rw [dl_sf_u h, if_neg (dl_op9 k), if_neg (dl_910 k), if_neg (fun y => z y.2)]
theorem dl_sf_9t {sk : Nat → Int32} {len : Nat} {j : Nat} (h : j < len) (k : sk j = 9) : dl_sf sk len true j 0 = nI j := by
  rw [dl_sf_u h, if_neg (dl_op9 k), if_neg (dl_910 k), if_pos ⟨k, rfl, rfl⟩]
theorem dl_sf_10 {sk : Nat → Int32} {len : Nat} {we : Bool} {j d : Nat} (h : j < len) (k : sk j = 10) : dl_sf sk len we j (d + 1) = dl_sf sk len we (j + 1) d := by
  rw [dl_sf_u h, if_neg (dl_op10 k), if_pos k, if_neg (Nat.succ_ne_zero d), Nat.add_sub_cancel]
theorem dl_sf_10f {sk : Nat → Int32} {len : Nat} {j : Nat} (h : j < len) (k : sk j = 10) : dl_sf sk len false j 0 = nI j := by
  rw [dl_sf_u h, if_neg (dl_op10 k), if_pos k, if_pos rfl, if_neg (by decide)]
theorem dl_sf_10t {sk : Nat → Int32} {len : Nat} {j : Nat} (h : j < len) (k : sk j = 10) : dl_sf sk len true j 0 = -1 := by
  rw [dl_sf_u h, if_neg (dl_op10 k), if_pos k, if_pos rfl, if_pos rfl]
theorem dl_sb_10 {sk : Nat → Int32} {i d : Nat} (k : sk i = 10) : dl_sb sk (i + 1) d = dl_sb sk i (d + 1) := by
  show (if sk i = 10 then _ else _) = _
  rw [if_pos k]
theorem dl_sb_o0 {sk : Nat → Int32} {i : Nat} (k : sk i = 8 ∨ sk i = 11) : dl_sb sk (i + 1) 0 = nI i := by
  show (if sk i = 10 then _ else _) = _
  rw [if_neg (dl_o10 k), if_pos k, if_pos rfl]
theorem dl_sb_os {sk : Nat → Int32} {i d : Nat} (k : sk i = 8 ∨ sk i = 11) : dl_sb sk (i + 1) (d + 1) = dl_sb sk i d := by
  show (if sk i = 10 then _ else _) = _
  rw [if_neg (dl_o10 k), if_pos k, if_neg (Nat.succ_ne_zero d), Nat.add_sub_cancel]
theorem dl_sb_n {sk : Nat → Int32} {i d : Nat} (k1 : ¬ (sk i = 8 ∨ sk i = 11)) (k2 : ¬ sk i = 10) : dl_sb sk (i + 1) d = dl_sb sk i d := by
  show (if sk i = 10 then _ else _) = _
  rw [if_neg k2, if_neg k1]
/-! where a step at q leads, if it doesn't just go on -/
def dl_af (sk : Nat → Int32) (len q : Nat) : Int32 := if dl_sf sk len false (q + 1) 0 < 0 then nI len else dl_sf sk len false (q + 1) 0 + 1
def dl_if (sk : Nat → Int32) (len q : Nat) : Int32 := if 0 ≤ dl_sf sk len true (q + 1) 0 then dl_sf sk len true (q + 1) 0 + 1 else dl_af sk len q
def dl_en (sk : Nat → Int32) (q : Nat) : Int32 := if 0 ≤ dl_sb sk q 0 ∧ sk (dl_sb sk q 0).toNatClampNeg = 11 then dl_sb sk q 0 else nI (q + 1)
def dl_tg (sk : Nat → Int32) (len q : Nat) : Int32 := if sk q = 8 then dl_if sk len q else if sk q = 10 then dl_en sk q else dl_af sk len q
def dl_ct (k : Int32) : Prop := k = 8 ∨ k = 9 ∨ k = 10 ∨ k = 11
/-- what a check knows of open block d of D, in front of statement i -/
def dl_B (sk : Nat → Int32) (len i D : Nat) (op el : Nat → Int32) (d : Nat) : Prop := ∃ o, o < i ∧ op d = nI o ∧ (sk o = 8 ∨ sk o = 11) ∧ dl_sb sk i (D - 1 - d) = nI o ∧ dl_sf sk len false (o + 1) 0 = dl_sf sk len false i (D - 1 - d) ∧ ((el d = -1 ∧ dl_sf sk len true (o + 1) 0 = dl_sf sk len true i (D - 1 - d)) ∨ ∃ m, m < i ∧ el d = nI m ∧ sk o = 8 ∧ sk m = 9 ∧ dl_sf sk len true (o + 1) 0 = nI m ∧ dl_sf sk len false (m + 1) 0 = dl_sf sk len false i (D - 1 - d))
def dl_J (sk : Nat → Int32) (len i D : Nat) (op el jm : Nat → Int32) : Prop := ∀ q, q < i → dl_ct (sk q) → jm q = dl_tg sk len q ∨ ∃ d, d < D ∧ (op d = nI q ∨ el d = nI q)
def dl_K (sk : Nat → Int32) (len i D : Nat) (op el jm : Nat → Int32) : Prop := (∀ d, d < D → dl_B sk len i D op el d) ∧ dl_J sk len i D op el jm
theorem dl_K0 (sk : Nat → Int32) (len : Nat) (op el jm : Nat → Int32) : dl_K sk len 0 0 op el jm := ⟨fun d h => absurd h (by omega), fun q h => absurd h (by omega)⟩
theorem dl_K_n {sk : Nat → Int32} {len i D : Nat} {op el jm : Nat → Int32} (hi : i < len) (K : dl_K sk len i D op el jm) (k : ¬ dl_ct (sk i)) : dl_K sk len (i + 1) D op el jm := by
  have k1 : ¬ (sk i = 8 ∨ sk i = 11) := fun z => k (z.elim Or.inl (fun y => Or.inr (Or.inr (Or.inr y))))
  have k2 : ¬ sk i = 10 := fun z => k (Or.inr (Or.inr (Or.inl z)))
  have k3 : ¬ sk i = 9 := fun z => k (Or.inr (Or.inl z))
  refine ⟨fun d hd => ?_, fun q hq hc => ?_⟩
  · obtain ⟨o, h1, h2, h3, h4, h5, h6⟩ := K.1 d hd
    refine ⟨o, by omega, h2, h3, by rw [dl_sb_n k1 k2]; exact h4, by rw [h5, dl_sf_n hi k1 k2 k3], ?_⟩
    rcases h6 with ⟨a1, a2⟩ | ⟨m, a0, a1, a2, a3, a4, a5⟩
    · exact Or.inl ⟨a1, by rw [a2, dl_sf_n hi k1 k2 k3]⟩
    · exact Or.inr ⟨m, by omega, a1, a2, a3, a4, by rw [a5, dl_sf_n hi k1 k2 k3]⟩
  · rcases Nat.lt_or_ge q i with h | h
    · exact K.2 q h hc
    · have e : q = i := by omega
      subst e
      exact absurd hc k
theorem dl_K_o {sk : Nat → Int32} {len i D : Nat} {op el jm : Nat → Int32} (hi : i < len) (K : dl_K sk len i D op el jm) (k : sk i = 8 ∨ sk i = 11) : dl_K sk len (i + 1) (D + 1) (upd op D (nI i)) (upd el D (-1)) jm := by
  have u1 : ∀ d, d < D → upd op D (nI i) d = op d := fun d hd => if_neg (by omega)
  have u2 : ∀ d, d < D → upd el D (-1) d = el d := fun d hd => if_neg (by omega)
  have u3 : upd op D (nI i) D = nI i := if_pos rfl
  have u4 : upd el D (-1) D = -1 := if_pos rfl
  refine ⟨fun d hd => ?_, fun q hq hc => ?_⟩
  · rcases Nat.lt_or_ge d D with h | h
    · obtain ⟨o, h1, h2, h3, h4, h5, h6⟩ := K.1 d h
      have e : D + 1 - 1 - d = (D - 1 - d) + 1 := by omega
      refine ⟨o, by omega, by rw [u1 d h]; exact h2, h3, by rw [e, dl_sb_os k]; exact h4, by rw [e, h5, dl_sf_o hi k], ?_⟩
      rw [u2 d h, e]
      rcases h6 with ⟨a1, a2⟩ | ⟨m, a0, a1, a2, a3, a4, a5⟩
      · exact Or.inl ⟨a1, by rw [a2, dl_sf_o hi k]⟩
      · exact Or.inr ⟨m, by omega, a1, a2, a3, a4, by rw [a5, dl_sf_o hi k]⟩
    · have e : d = D := by omega
      subst e
      have e2 : d + 1 - 1 - d = 0 := by omega
      refine ⟨i, by omega, u3, k, by rw [e2, dl_sb_o0 k], by rw [e2], Or.inl ⟨u4, by rw [e2]⟩⟩
  · rcases Nat.lt_or_ge q i with h | h
    · rcases K.2 q h hc with z | ⟨d, hd, z⟩
      · exact Or.inl z
      · exact Or.inr ⟨d, by omega, by rw [u1 d hd, u2 d hd]; exact z⟩
    · have e : q = i := by omega
      subst e
      exact Or.inr ⟨D, by omega, Or.inl u3⟩
theorem dl_K_e {sk : Nat → Int32} {len i D : Nat} {op el jm : Nat → Int32} (hi : i < len) (K : dl_K sk len i (D + 1) op el jm) (k : sk i = 9) (hw : ∀ o, o < i → op D = nI o → ¬ sk o = 11) (hn : el D = -1) (h31 : len < 2 ^ 31) : dl_K sk len (i + 1) (D + 1) op (upd el D (nI i)) jm := by
  have u2 : ∀ d, d < D → upd el D (nI i) d = el d := fun d hd => if_neg (by omega)
  have u4 : upd el D (nI i) D = nI i := if_pos rfl
  refine ⟨fun d hd => ?_, fun q hq hc => ?_⟩
  · obtain ⟨o, h1, h2, h3, h4, h5, h6⟩ := K.1 d hd
    rcases Nat.lt_or_ge d D with h | h
    · have z : ∀ we : Bool, ¬ (D + 1 - 1 - d = 0 ∧ we = true) := fun we y => by omega
      refine ⟨o, by omega, h2, h3, by rw [dl_sb_n (dl_op9 k) (dl_910 k)]; exact h4, by rw [h5, dl_sf_9 hi k (z _)], ?_⟩
      rw [u2 d h]
      rcases h6 with ⟨a1, a2⟩ | ⟨m, a0, a1, a2, a3, a4, a5⟩
      · exact Or.inl ⟨a1, by rw [a2, dl_sf_9 hi k (z _)]⟩
      · exact Or.inr ⟨m, by omega, a1, a2, a3, a4, by rw [a5, dl_sf_9 hi k (z _)]⟩
    · have e : d = D := by omega
      subst e
      have e2 : d + 1 - 1 - d = 0 := by omega
      rw [e2] at h4 h5 h6
      have z : ¬ ((0 : Nat) = 0 ∧ false = true) := fun y => Bool.noConfusion y.2
      refine ⟨o, by omega, h2, h3, by rw [e2, dl_sb_n (dl_op9 k) (dl_910 k)]; exact h4, by rw [e2, h5, dl_sf_9 hi k z], Or.inr ⟨i, by omega, u4, ?_, k, ?_, by rw [e2]⟩⟩
      · exact h3.elim (fun y => y) (fun y => absurd y (hw o h1 h2))
      · rcases h6 with ⟨a1, a2⟩ | ⟨m, a0, a1, a2, a3, a4, a5⟩
        · rw [a2, dl_sf_9t hi k]
        · rw [hn] at a1
          exact absurd a1 (dl_m1n (by omega))
  · rcases Nat.lt_or_ge q i with h | h
    · rcases K.2 q h hc with z | ⟨d, hd, z⟩
      · exact Or.inl z
      · refine Or.inr ⟨d, hd, ?_⟩
        rcases Nat.lt_or_ge d D with hd2 | hd2
        · rw [u2 d hd2]; exact z
        · have e : d = D := by omega
          subst e
          rcases z with z | z
          · exact Or.inl z
          · rw [hn] at z
            exact absurd z (dl_m1n (by omega))
    · have e : q = i := by omega
      subst e
      exact Or.inr ⟨D, by omega, Or.inr u4⟩
theorem dl_af_v {sk : Nat → Int32} {len q i : Nat} (h : dl_sf sk len false (q + 1) 0 = nI i) (hi : i < 2 ^ 31) : dl_af sk len q = nI (i + 1) := by
  unfold dl_af
  rw [h, if_neg (nI_pos hi), nI_1]
theorem dl_tg_9 {sk : Nat → Int32} {len q i : Nat} (k : sk q = 9) (h : dl_sf sk len false (q + 1) 0 = nI i) (hi : i < 2 ^ 31) : dl_tg sk len q = nI (i + 1) := by
  unfold dl_tg
  rw [if_neg (fun z => dl_op9 k (Or.inl z)), if_neg (dl_910 k)]
  exact dl_af_v h hi
theorem dl_tg_11 {sk : Nat → Int32} {len q i : Nat} (k : sk q = 11) (h : dl_sf sk len false (q + 1) 0 = nI i) (hi : i < 2 ^ 31) : dl_tg sk len q = nI (i + 1) := by
  unfold dl_tg
  rw [if_neg (by rw [k]; decide), if_neg (by rw [k]; decide)]
  exact dl_af_v h hi
theorem dl_tg_8 {sk : Nat → Int32} {len q m : Nat} (k : sk q = 8) (h : dl_sf sk len true (q + 1) 0 = nI m) (hm : m < 2 ^ 31) : dl_tg sk len q = nI (m + 1) := by
  unfold dl_tg dl_if
  rw [if_pos k, h, if_pos (nI_pos' hm), nI_1]
theorem dl_tg_8n {sk : Nat → Int32} {len q i : Nat} (k : sk q = 8) (h : dl_sf sk len true (q + 1) 0 = -1) (h2 : dl_sf sk len false (q + 1) 0 = nI i) (hi : i < 2 ^ 31) : dl_tg sk len q = nI (i + 1) := by
  unfold dl_tg dl_if
  rw [if_pos k, h, if_neg (by decide)]
  exact dl_af_v h2 hi
theorem dl_tg_10 {sk : Nat → Int32} {len q o : Nat} (k : sk q = 10) (h : dl_sb sk q 0 = nI o) (ho : o < 2 ^ 31) : dl_tg sk len q = if sk o = 11 then nI o else nI (q + 1) := by
  unfold dl_tg dl_en
  rw [if_neg (fun z => dl_op10 k (Or.inl z)), if_pos k, h, nI_clamp ho]
  by_cases z : sk o = 11
  · rw [if_pos z, if_pos ⟨nI_pos' ho, z⟩]
  · rw [if_neg z, if_neg (fun y => z y.2)]
/-- closing the innermost block at an END: any jumps that are right at the block's own places, and elsewhere as they were -/
theorem dl_K_x {sk : Nat → Int32} {len i D : Nat} {op el jm jm' : Nat → Int32} (hi : i < len) (K : dl_K sk len i (D + 1) op el jm) (k : sk i = 10) (h1 : jm' i = dl_tg sk len i) (h2 : ∀ q, q < i → op D = nI q → jm' q = dl_tg sk len q) (h3 : ∀ q, q < i → el D = nI q → jm' q = dl_tg sk len q) (h4 : ∀ q, q < i → ¬ op D = nI q → ¬ el D = nI q → jm' q = jm q) : dl_K sk len (i + 1) D op el jm' := by
  refine ⟨fun d hd => ?_, fun q hq hc => ?_⟩
  · obtain ⟨o, a1, a2, a3, a4, a5, a6⟩ := K.1 d (by omega)
    have e : D + 1 - 1 - d = (D - 1 - d) + 1 := by omega
    rw [e] at a4 a5 a6
    refine ⟨o, by omega, a2, a3, by rw [dl_sb_10 k]; exact a4, by rw [a5, dl_sf_10 hi k], ?_⟩
    rcases a6 with ⟨b1, b2⟩ | ⟨m, b0, b1, b2, b3, b4, b5⟩
    · exact Or.inl ⟨b1, by rw [b2, dl_sf_10 hi k]⟩
    · exact Or.inr ⟨m, by omega, b1, b2, b3, b4, by rw [b5, dl_sf_10 hi k]⟩
  · rcases Nat.lt_or_ge q i with h | h
    · by_cases z1 : op D = nI q
      · exact Or.inl (h2 q h z1)
      · by_cases z2 : el D = nI q
        · exact Or.inl (h3 q h z2)
        · rcases K.2 q h hc with z | ⟨d, hd, z⟩
          · exact Or.inl ((h4 q h z1 z2).trans z)
          · rcases Nat.lt_or_ge d D with hd2 | hd2
            · exact Or.inr ⟨d, hd2, z⟩
            · have e : d = D := by omega
              subst e
              exact absurd z (fun y => y.elim z1 z2)
    · have e : q = i := by omega
      subst e
      exact Or.inl h1
/-- what the innermost block says at an END -/
theorem dl_K_top {sk : Nat → Int32} {len i D : Nat} {op el jm : Nat → Int32} (hi : i < len) (hl : len < 2 ^ 31) (K : dl_K sk len i (D + 1) op el jm) (k : sk i = 10) : ∃ o, o < i ∧ op D = nI o ∧ (sk o = 8 ∨ sk o = 11) ∧ dl_tg sk len i = (if sk o = 11 then nI o else nI (i + 1)) ∧ ((el D = -1 ∧ dl_tg sk len o = nI (i + 1)) ∨ ∃ m, m < i ∧ el D = nI m ∧ sk o = 8 ∧ sk m = 9 ∧ dl_tg sk len o = nI (m + 1) ∧ dl_tg sk len m = nI (i + 1)) := by
  obtain ⟨o, a1, a2, a3, a4, a5, a6⟩ := K.1 D (by omega)
  have e : D + 1 - 1 - D = 0 := by omega
  rw [e] at a4 a5 a6
  rw [dl_sf_10f hi k] at a5
  refine ⟨o, a1, a2, a3, dl_tg_10 k a4 (by omega), ?_⟩
  rcases a6 with ⟨b1, b2⟩ | ⟨m, b0, b1, b2, b3, b4, b5⟩
  · rw [dl_sf_10t hi k] at b2
    refine Or.inl ⟨b1, ?_⟩
    rcases a3 with a3 | a3
    · exact dl_tg_8n a3 b2 a5 (by omega)
    · exact dl_tg_11 a3 a5 (by omega)
  · rw [dl_sf_10f hi k] at b5
    exact Or.inr ⟨m, b0, b1, b2, b3, dl_tg_8 b2 b4 (by omega), dl_tg_9 b3 b5 (by omega)⟩
theorem dl_K_fin {sk : Nat → Int32} {len : Nat} {op el jm : Nat → Int32} (K : dl_K sk len len 0 op el jm) : ∀ q, q < len → dl_ct (sk q) → jm q = dl_tg sk len q := by
  intro q hq hc
  rcases K.2 q hq hc with z | ⟨d, hd, _⟩
  · exact z
  · omega
/-! a target is a position of the program, or just behind it -/
theorem dl_sc_r (sk : Nat → Int32) (we : Bool) : ∀ n j d, dl_sc sk we n j d = -1 ∨ ∃ r, j ≤ r ∧ r < j + n ∧ dl_sc sk we n j d = nI r := by
  intro n
  induction n with
  | zero => intro j d; exact Or.inl rfl
  | succ n ih =>
    intro j d
    have up : ∀ d', dl_sc sk we n (j + 1) d' = -1 ∨ ∃ r, j ≤ r ∧ r < j + (n + 1) ∧ dl_sc sk we n (j + 1) d' = nI r := by
      intro d'
      rcases ih (j + 1) d' with z | ⟨r, r1, r2, z⟩
      · exact Or.inl z
      · exact Or.inr ⟨r, by omega, by omega, z⟩
    show (if sk j = 8 ∨ sk j = 11 then dl_sc sk we n (j + 1) (d + 1) else if sk j = 10 then (if d = 0 then (if we = true then -1 else nI j) else dl_sc sk we n (j + 1) (d - 1)) else if sk j = 9 ∧ d = 0 ∧ we = true then nI j else dl_sc sk we n (j + 1) d) = -1 ∨ ∃ r, j ≤ r ∧ r < j + (n + 1) ∧ (if sk j = 8 ∨ sk j = 11 then dl_sc sk we n (j + 1) (d + 1) else if sk j = 10 then (if d = 0 then (if we = true then -1 else nI j) else dl_sc sk we n (j + 1) (d - 1)) else if sk j = 9 ∧ d = 0 ∧ we = true then nI j else dl_sc sk we n (j + 1) d) = nI r
    split
    · exact up _
    · split
      · split
        · split
          · exact Or.inl rfl
          · exact Or.inr ⟨j, by omega, by omega, rfl⟩
        · exact up _
      · split
        · exact Or.inr ⟨j, by omega, by omega, rfl⟩
        · exact up _
theorem dl_sf_r (sk : Nat → Int32) (len : Nat) (we : Bool) (j d : Nat) : dl_sf sk len we j d = -1 ∨ ∃ r, r < len ∧ dl_sf sk len we j d = nI r := by
  unfold dl_sf
  rcases dl_sc_r sk we (len - j) j d with z | ⟨r, r1, r2, z⟩
  · exact Or.inl z
  · exact Or.inr ⟨r, by omega, z⟩
theorem dl_sb_r (sk : Nat → Int32) : ∀ i d, dl_sb sk i d = -1 ∨ ∃ r, r < i ∧ dl_sb sk i d = nI r := by
  intro i
  induction i with
  | zero => intro d; exact Or.inl rfl
  | succ i ih =>
    intro d
    have up : ∀ d', dl_sb sk i d' = -1 ∨ ∃ r, r < i + 1 ∧ dl_sb sk i d' = nI r := by
      intro d'
      rcases ih d' with z | ⟨r, r1, z⟩
      · exact Or.inl z
      · exact Or.inr ⟨r, by omega, z⟩
    show (if sk i = 10 then dl_sb sk i (d + 1) else if sk i = 8 ∨ sk i = 11 then (if d = 0 then nI i else dl_sb sk i (d - 1)) else dl_sb sk i d) = -1 ∨ ∃ r, r < i + 1 ∧ (if sk i = 10 then dl_sb sk i (d + 1) else if sk i = 8 ∨ sk i = 11 then (if d = 0 then nI i else dl_sb sk i (d - 1)) else dl_sb sk i d) = nI r
    split
    · exact up _
    · split
      · split
        · exact Or.inr ⟨i, by omega, rfl⟩
        · exact up _
      · exact up _
theorem dl_af_r (sk : Nat → Int32) {len q : Nat} (hl : len < 2 ^ 31) : ∃ r, r ≤ len ∧ dl_af sk len q = nI r := by
  unfold dl_af
  rcases dl_sf_r sk len false (q + 1) 0 with z | ⟨r, hr, z⟩
  · rw [z, if_pos (by decide)]
    exact ⟨len, Nat.le_refl _, rfl⟩
  · rw [z, if_neg (nI_pos (by omega)), nI_1]
    exact ⟨r + 1, by omega, rfl⟩
theorem dl_tg_r (sk : Nat → Int32) {len q : Nat} (hq : q < len) (hl : len < 2 ^ 31) : ∃ r, r ≤ len ∧ dl_tg sk len q = nI r := by
  unfold dl_tg
  split
  · unfold dl_if
    rcases dl_sf_r sk len true (q + 1) 0 with z | ⟨r, hr, z⟩
    · rw [z, if_neg (by decide)]
      exact dl_af_r sk hl
    · rw [z, if_pos (nI_pos' (by omega)), nI_1]
      exact ⟨r + 1, by omega, rfl⟩
  · split
    · unfold dl_en
      rcases dl_sb_r sk q 0 with z | ⟨r, hr, z⟩
      · rw [z, if_neg (fun y => absurd y.1 (by decide))]
        exact ⟨q + 1, by omega, rfl⟩
      · rw [z]
        split
        · exact ⟨r, by omega, rfl⟩
        · exact ⟨q + 1, by omega, rfl⟩
    · exact dl_af_r sk hl
