/-! p18: a check of the component -/
section
variable {xP xC xA xL xO xQ xS xK : Int32} {dA aA po st jm pl op el so ip va ov oc : Nat → Int32}
def dp_IV (P L p : Nat) (S aA po : Nat → Int32) (i D : Nat) (op el jm pl : Nat → Int32) : Prop := D ≤ 8 ∧ ds_N S (ds_lv P aA po p) (ds_lc P aA po p) i D op el jm ∧ dl_K (fun i => S (i * 4)) L i D op el jm ∧ ds_PL P aA pl S op (ds_lv P aA po p) D p
theorem dp_ct {S : Nat → Int32} {i : Nat} : dl_ct (S (i * 4)) ↔ ds_ct S i := by
  unfold dl_ct ds_ct ds_br ds_jp
  constructor
  · rintro (h | h | h | h)
    · exact Or.inl (Or.inl h)
    · exact Or.inr (Or.inl h)
    · exact Or.inr (Or.inr h)
    · exact Or.inl (Or.inr h)
  · rintro ((h | h) | (h | h))
    · exact Or.inl h
    · exact Or.inr (Or.inr (Or.inr h))
    · exact Or.inr (Or.inl h)
    · exact Or.inr (Or.inr (Or.inl h))
theorem dp_nn {P L p i D : Nat} {S : Nat → Int32} (hi : i < L) (h : dp_IV P L p S aA po i D op el jm pl) (k : ¬ ds_ct S i) (x : ds_FW S (ds_lv P aA po p) (ds_lc P aA po p) i → ds_rr P aA (fun o => pl (D * 8 + o)) p ∧ (¬ S (i * 4) = 1 → ds_lv P aA po p (ds_b S i)) ∧ ((S (i * 4) = 3 ∨ S (i * 4) = 4 ∨ S (i * 4) = 5 ∨ S (i * 4) = 6 ∨ S (i * 4) = 7) → ds_lv P aA po p (ds_c S i))) : dp_IV P L p S aA po (i + 1) D op el jm pl :=
  ⟨h.1, ds_N_n h.2.1 k (fun f => (x f).2) (fun d hd nl f => nl (h.2.2.2 D (Nat.le_refl _) (x f).1 d hd)), dl_K_n hi h.2.2.1 (fun z => k (dp_ct.mp z)), h.2.2.2⟩
theorem dp_sa {P p i t : Nat} {S s : Nat → Int32} (hp : p < 32) (k : ¬ S (i * 4) = 12) (ha : ds_a S i = t) (fl : dl_fl P aA po s t 0) (f : ds_FW S (ds_lv P aA po p) (ds_lc P aA po p) i) : ds_rr P aA s p := by
  rcases f.2.2 with z | z
  · exact absurd z.1 k
  · have y := z.2
    rw [ha] at y
    exact ds_fl_rr hp fl y.2
theorem dp_so {P p i t : Nat} {S s : Nat → Int32} (hp : p < 32) (k : S (i * 4) = 12) (ha : ds_a S i = t) (fl : dl_fl P aA po s (16 + t) 0) (f : ds_FW S (ds_lv P aA po p) (ds_lc P aA po p) i) : ds_rr P aA s p := by
  rcases f.2.2 with z | z
  · have y := z.2
    rw [ha] at y
    exact ds_fl_rr hp fl y.2
  · exact absurd k z.1
theorem dp_r1 {P D p : Nat} (hP : P ≤ 8) (g : ds_rr P aA (dl_S1 pl so D) p) : ds_rr P aA (fun o => pl (D * 8 + o)) p := ds_rr_c (fun o ho => by unfold dl_S1; rw [dl_row_l (by omega)]) g
theorem dp_r2 {P D p b : Nat} (hP : P ≤ 8) (g : ds_rr P aA (dl_S2 pl po so D b) p) : ds_rr P aA (fun o => pl (D * 8 + o)) p ∧ dl_rd P aA po b p := by
  have g2 : ds_rr P aA (fun o => pl (D * 8 + o) &&& po (b * 8 + o)) p := by
    refine ds_rr_c (fun o ho => ?_) g
    unfold dl_S2 dl_Sj dl_S1
    rw [dl_row_l (by omega), dl_row_l (by omega)]
  exact ⟨ds_rr_1 (a := fun o => pl (D * 8 + o)) (b := fun o => po (b * 8 + o)) g2, ds_rr_2 (a := fun o => pl (D * 8 + o)) (b := fun o => po (b * 8 + o)) g2⟩
theorem dp_r3 {P D p b c : Nat} (hP : P ≤ 8) (g : ds_rr P aA (dl_Sj po (dl_S2 pl po so D b) c) p) : ds_rr P aA (fun o => pl (D * 8 + o)) p ∧ dl_rd P aA po b p ∧ dl_rd P aA po c p := by
  have g2 : ds_rr P aA (fun o => dl_S2 pl po so D b o &&& po (c * 8 + o)) p := by
    refine ds_rr_c (fun o ho => ?_) g
    unfold dl_Sj
    rw [dl_row_l (by omega)]
  have g3 := dp_r2 hP (ds_rr_1 (a := dl_S2 pl po so D b) (b := fun o => po (c * 8 + o)) g2)
  exact ⟨g3.1, g3.2, ds_rr_2 (a := dl_S2 pl po so D b) (b := fun o => po (c * 8 + o)) g2⟩
theorem dp_rt {P p b : Nat} {s : Nat → Int32} (hP : P ≤ 8) (g : ds_rr P aA (dl_St po s b) p) : dl_rd P aA po b p := ds_rr_c (s' := fun o => po (b * 8 + o)) (fun o ho => by unfold dl_St; rw [dl_row_l (by omega)]) g
theorem dp_g1 {post : Int32 → St2 → Prop} {P L p i D : Nat} {S : Nat → Int32} (hP : P ≤ 8) (hp : p < 32) (hL : L ≤ 64) (hi : i < L) (hT : dp_T L st S) (h : dp_IV P L p S aA po i D op el jm pl) (q : ∀ (r : Int32) (D' : Nat) (jm' pl' op' el' so' : Nat → Int32), (r = 0 ∨ ∃ c, 1 ≤ c ∧ c ≤ 4 ∧ r = nI c) → (r = 0 → dp_IV P L p S aA po (i + 1) D' op' el' jm' pl') → post r (nI P, xC, 0, nI L, nI D', xQ, xS, xK, dA, aA, po, st, jm', pl', op', el', so', ip, va, ov, oc)) (k : S (i * 4) = 1) (va' : dl_v (S (i * 4 + 1))) : wpX_statementError post (nI P, xC, 0, nI L, nI D, xQ, xS, xK, dA, aA, po, st, jm, pl, op, el, so, ip, va, ov, oc) (nI i) := by
  have p0 := hT.1 (i * 4) (by omega)
  have p1 := hT.1 (i * 4 + 1) (by omega)
  have p2 := hT.1 (i * 4 + 2) (by omega)
  have p3 := hT.1 (i * 4 + 3) (by omega)
  obtain ⟨t, ht, ea⟩ := va'
  have ia : ds_a S i = t := by
    unfold ds_a
    rw [ea, nI_clamp (by omega)]
  have nc : ¬ ds_ct S i := by
    unfold ds_ct ds_br ds_jp
    rw [k]
    decide
  refine dx_st1 hP h.1 (by omega) (p0.trans k) (p1.trans ea) (by omega) (fun f => q 0 D jm pl op el _ (Or.inl rfl) (fun _ => dp_nn hi h nc (fun y => ?_))) (fun _ => q 3 D jm pl op el _ (Or.inr ⟨3, by omega, by omega, rfl⟩) (fun z => absurd z (by decide)))
  exact ⟨dp_r1 hP (dp_sa hp (by rw [k]; decide) ia f y), fun z => absurd k z, fun z => absurd z (by rw [k]; decide)⟩
theorem dp_g2 {post : Int32 → St2 → Prop} {P L p i D : Nat} {S : Nat → Int32} (hP : P ≤ 8) (hp : p < 32) (hL : L ≤ 64) (hi : i < L) (hT : dp_T L st S) (h : dp_IV P L p S aA po i D op el jm pl) (q : ∀ (r : Int32) (D' : Nat) (jm' pl' op' el' so' : Nat → Int32), (r = 0 ∨ ∃ c, 1 ≤ c ∧ c ≤ 4 ∧ r = nI c) → (r = 0 → dp_IV P L p S aA po (i + 1) D' op' el' jm' pl') → post r (nI P, xC, 0, nI L, nI D', xQ, xS, xK, dA, aA, po, st, jm', pl', op', el', so', ip, va, ov, oc)) (k : S (i * 4) = 2) (va' : dl_v (S (i * 4 + 1))) (vb' : dl_v (S (i * 4 + 2))) : wpX_statementError post (nI P, xC, 0, nI L, nI D, xQ, xS, xK, dA, aA, po, st, jm, pl, op, el, so, ip, va, ov, oc) (nI i) := by
  have p0 := hT.1 (i * 4) (by omega)
  have p1 := hT.1 (i * 4 + 1) (by omega)
  have p2 := hT.1 (i * 4 + 2) (by omega)
  have p3 := hT.1 (i * 4 + 3) (by omega)
  obtain ⟨t, ht, ea⟩ := va'
  have ia : ds_a S i = t := by
    unfold ds_a
    rw [ea, nI_clamp (by omega)]
  obtain ⟨b, hb, eb⟩ := vb'
  have ib : ds_b S i = b := by
    unfold ds_b
    rw [eb, nI_clamp (by omega)]
  have nc : ¬ ds_ct S i := by
    unfold ds_ct ds_br ds_jp
    rw [k]
    decide
  refine dx_st2 hP h.1 (by omega) (p0.trans k) (p1.trans ea) (p2.trans eb) (by omega) (by omega) (fun f => q 0 D jm pl op el _ (Or.inl rfl) (fun _ => dp_nn hi h nc (fun y => ?_))) (fun _ => q 3 D jm pl op el _ (Or.inr ⟨3, by omega, by omega, rfl⟩) (fun z => absurd z (by decide)))
  have g := dp_r2 hP (dp_sa hp (by rw [k]; decide) ia f y)
  exact ⟨g.1, fun _ => by rw [ib]; exact ⟨hb, g.2⟩, fun z => absurd z (by rw [k]; decide)⟩
theorem dp_g12 {post : Int32 → St2 → Prop} {P L p i D : Nat} {S : Nat → Int32} (hP : P ≤ 8) (hp : p < 32) (hL : L ≤ 64) (hi : i < L) (hT : dp_T L st S) (h : dp_IV P L p S aA po i D op el jm pl) (q : ∀ (r : Int32) (D' : Nat) (jm' pl' op' el' so' : Nat → Int32), (r = 0 ∨ ∃ c, 1 ≤ c ∧ c ≤ 4 ∧ r = nI c) → (r = 0 → dp_IV P L p S aA po (i + 1) D' op' el' jm' pl') → post r (nI P, xC, 0, nI L, nI D', xQ, xS, xK, dA, aA, po, st, jm', pl', op', el', so', ip, va, ov, oc)) (k : S (i * 4) = 12) (va' : dl_hc (S (i * 4 + 1))) (vb' : dl_v (S (i * 4 + 2))) : wpX_statementError post (nI P, xC, 0, nI L, nI D, xQ, xS, xK, dA, aA, po, st, jm, pl, op, el, so, ip, va, ov, oc) (nI i) := by
  have p0 := hT.1 (i * 4) (by omega)
  have p1 := hT.1 (i * 4 + 1) (by omega)
  have p2 := hT.1 (i * 4 + 2) (by omega)
  have p3 := hT.1 (i * 4 + 3) (by omega)
  obtain ⟨t, ht, ea⟩ := va'
  have ia : ds_a S i = t := by
    unfold ds_a
    rw [ea, nI_clamp (by omega)]
  obtain ⟨b, hb, eb⟩ := vb'
  have ib : ds_b S i = b := by
    unfold ds_b
    rw [eb, nI_clamp (by omega)]
  have nc : ¬ ds_ct S i := by
    unfold ds_ct ds_br ds_jp
    rw [k]
    decide
  refine dx_st12 hP h.1 (by omega) (p0.trans k) (p1.trans ea) (p2.trans eb) (by omega) (by omega) (fun f => q 0 D jm pl op el _ (Or.inl rfl) (fun _ => dp_nn hi h nc (fun y => ?_))) (fun _ => q 3 D jm pl op el _ (Or.inr ⟨3, by omega, by omega, rfl⟩) (fun z => absurd z (by decide)))
  have g := dp_r2 hP (dp_so hp k ia f y)
  exact ⟨g.1, fun _ => by rw [ib]; exact ⟨hb, g.2⟩, fun z => absurd z (by rw [k]; decide)⟩
theorem dp_g3 {post : Int32 → St2 → Prop} {P L p i D : Nat} {S : Nat → Int32} (hP : P ≤ 8) (hp : p < 32) (hL : L ≤ 64) (hi : i < L) (hT : dp_T L st S) (h : dp_IV P L p S aA po i D op el jm pl) (q : ∀ (r : Int32) (D' : Nat) (jm' pl' op' el' so' : Nat → Int32), (r = 0 ∨ ∃ c, 1 ≤ c ∧ c ≤ 4 ∧ r = nI c) → (r = 0 → dp_IV P L p S aA po (i + 1) D' op' el' jm' pl') → post r (nI P, xC, 0, nI L, nI D', xQ, xS, xK, dA, aA, po, st, jm', pl', op', el', so', ip, va, ov, oc)) (k : S (i * 4) = 3) (va' : dl_v (S (i * 4 + 1))) (vb' : dl_v (S (i * 4 + 2))) (vc' : dl_v (S (i * 4 + 3))) : wpX_statementError post (nI P, xC, 0, nI L, nI D, xQ, xS, xK, dA, aA, po, st, jm, pl, op, el, so, ip, va, ov, oc) (nI i) := by
  have p0 := hT.1 (i * 4) (by omega)
  have p1 := hT.1 (i * 4 + 1) (by omega)
  have p2 := hT.1 (i * 4 + 2) (by omega)
  have p3 := hT.1 (i * 4 + 3) (by omega)
  obtain ⟨t, ht, ea⟩ := va'
  have ia : ds_a S i = t := by
    unfold ds_a
    rw [ea, nI_clamp (by omega)]
  obtain ⟨b, hb, eb⟩ := vb'
  have ib : ds_b S i = b := by
    unfold ds_b
    rw [eb, nI_clamp (by omega)]
  obtain ⟨c, hc, ec⟩ := vc'
  have ic : ds_c S i = c := by
    unfold ds_c
    rw [ec, nI_clamp (by omega)]
  have nc : ¬ ds_ct S i := by
    unfold ds_ct ds_br ds_jp
    rw [k]
    decide
  refine dx_st3 hP h.1 (by omega) (p0.trans k) (p1.trans ea) (p2.trans eb) (p3.trans ec) (by omega) (by omega) (by omega) (fun f => q 0 D jm pl op el _ (Or.inl rfl) (fun _ => dp_nn hi h nc (fun y => ?_))) (fun _ => q 3 D jm pl op el _ (Or.inr ⟨3, by omega, by omega, rfl⟩) (fun z => absurd z (by decide)))
  have g := dp_r3 hP (dp_sa hp (by rw [k]; decide) ia f y)
  exact ⟨g.1, fun _ => by rw [ib]; exact ⟨hb, g.2.1⟩, fun _ => by rw [ic]; exact ⟨hc, g.2.2⟩⟩
theorem dp_g4 {post : Int32 → St2 → Prop} {P L p i D : Nat} {S : Nat → Int32} (hP : P ≤ 8) (hp : p < 32) (hL : L ≤ 64) (hi : i < L) (hT : dp_T L st S) (h : dp_IV P L p S aA po i D op el jm pl) (q : ∀ (r : Int32) (D' : Nat) (jm' pl' op' el' so' : Nat → Int32), (r = 0 ∨ ∃ c, 1 ≤ c ∧ c ≤ 4 ∧ r = nI c) → (r = 0 → dp_IV P L p S aA po (i + 1) D' op' el' jm' pl') → post r (nI P, xC, 0, nI L, nI D', xQ, xS, xK, dA, aA, po, st, jm', pl', op', el', so', ip, va, ov, oc)) (k : S (i * 4) = 4) (va' : dl_v (S (i * 4 + 1))) (vb' : dl_v (S (i * 4 + 2))) (vc' : dl_v (S (i * 4 + 3))) : wpX_statementError post (nI P, xC, 0, nI L, nI D, xQ, xS, xK, dA, aA, po, st, jm, pl, op, el, so, ip, va, ov, oc) (nI i) := by
  have p0 := hT.1 (i * 4) (by omega)
  have p1 := hT.1 (i * 4 + 1) (by omega)
  have p2 := hT.1 (i * 4 + 2) (by omega)
  have p3 := hT.1 (i * 4 + 3) (by omega)
  obtain ⟨t, ht, ea⟩ := va'
  have ia : ds_a S i = t := by
    unfold ds_a
    rw [ea, nI_clamp (by omega)]
  obtain ⟨b, hb, eb⟩ := vb'
  have ib : ds_b S i = b := by
    unfold ds_b
    rw [eb, nI_clamp (by omega)]
  obtain ⟨c, hc, ec⟩ := vc'
  have ic : ds_c S i = c := by
    unfold ds_c
    rw [ec, nI_clamp (by omega)]
  have nc : ¬ ds_ct S i := by
    unfold ds_ct ds_br ds_jp
    rw [k]
    decide
  refine dx_st4 hP h.1 (by omega) (p0.trans k) (p1.trans ea) (p2.trans eb) (p3.trans ec) (by omega) (by omega) (by omega) (fun f => q 0 D jm pl op el _ (Or.inl rfl) (fun _ => dp_nn hi h nc (fun y => ?_))) (fun _ => q 3 D jm pl op el _ (Or.inr ⟨3, by omega, by omega, rfl⟩) (fun z => absurd z (by decide)))
  have g := dp_r3 hP (dp_sa hp (by rw [k]; decide) ia f y)
  exact ⟨g.1, fun _ => by rw [ib]; exact ⟨hb, g.2.1⟩, fun _ => by rw [ic]; exact ⟨hc, g.2.2⟩⟩
theorem dp_g5 {post : Int32 → St2 → Prop} {P L p i D : Nat} {S : Nat → Int32} (hP : P ≤ 8) (hp : p < 32) (hL : L ≤ 64) (hi : i < L) (hT : dp_T L st S) (h : dp_IV P L p S aA po i D op el jm pl) (q : ∀ (r : Int32) (D' : Nat) (jm' pl' op' el' so' : Nat → Int32), (r = 0 ∨ ∃ c, 1 ≤ c ∧ c ≤ 4 ∧ r = nI c) → (r = 0 → dp_IV P L p S aA po (i + 1) D' op' el' jm' pl') → post r (nI P, xC, 0, nI L, nI D', xQ, xS, xK, dA, aA, po, st, jm', pl', op', el', so', ip, va, ov, oc)) (k : S (i * 4) = 5) (va' : dl_v (S (i * 4 + 1))) (vb' : dl_v (S (i * 4 + 2))) (vc' : dl_v (S (i * 4 + 3))) : wpX_statementError post (nI P, xC, 0, nI L, nI D, xQ, xS, xK, dA, aA, po, st, jm, pl, op, el, so, ip, va, ov, oc) (nI i) := by
  have p0 := hT.1 (i * 4) (by omega)
  have p1 := hT.1 (i * 4 + 1) (by omega)
  have p2 := hT.1 (i * 4 + 2) (by omega)
  have p3 := hT.1 (i * 4 + 3) (by omega)
  obtain ⟨t, ht, ea⟩ := va'
  have ia : ds_a S i = t := by
    unfold ds_a
    rw [ea, nI_clamp (by omega)]
  obtain ⟨b, hb, eb⟩ := vb'
  have ib : ds_b S i = b := by
    unfold ds_b
    rw [eb, nI_clamp (by omega)]
  obtain ⟨c, hc, ec⟩ := vc'
  have ic : ds_c S i = c := by
    unfold ds_c
    rw [ec, nI_clamp (by omega)]
  have nc : ¬ ds_ct S i := by
    unfold ds_ct ds_br ds_jp
    rw [k]
    decide
  refine dx_st5 hP h.1 (by omega) (p0.trans k) (p1.trans ea) (p2.trans eb) (p3.trans ec) (by omega) (by omega) (by omega) (fun f => q 0 D jm pl op el _ (Or.inl rfl) (fun _ => dp_nn hi h nc (fun y => ?_))) (fun _ => q 3 D jm pl op el _ (Or.inr ⟨3, by omega, by omega, rfl⟩) (fun z => absurd z (by decide)))
  have g := dp_r3 hP (dp_sa hp (by rw [k]; decide) ia f y)
  exact ⟨g.1, fun _ => by rw [ib]; exact ⟨hb, g.2.1⟩, fun _ => by rw [ic]; exact ⟨hc, g.2.2⟩⟩
theorem dp_g6 {post : Int32 → St2 → Prop} {P L p i D : Nat} {S : Nat → Int32} (hP : P ≤ 8) (hp : p < 32) (hL : L ≤ 64) (hi : i < L) (hT : dp_T L st S) (h : dp_IV P L p S aA po i D op el jm pl) (q : ∀ (r : Int32) (D' : Nat) (jm' pl' op' el' so' : Nat → Int32), (r = 0 ∨ ∃ c, 1 ≤ c ∧ c ≤ 4 ∧ r = nI c) → (r = 0 → dp_IV P L p S aA po (i + 1) D' op' el' jm' pl') → post r (nI P, xC, 0, nI L, nI D', xQ, xS, xK, dA, aA, po, st, jm', pl', op', el', so', ip, va, ov, oc)) (k : S (i * 4) = 6) (va' : dl_v (S (i * 4 + 1))) (vb' : dl_v (S (i * 4 + 2))) (vc' : dl_v (S (i * 4 + 3))) : wpX_statementError post (nI P, xC, 0, nI L, nI D, xQ, xS, xK, dA, aA, po, st, jm, pl, op, el, so, ip, va, ov, oc) (nI i) := by
  have p0 := hT.1 (i * 4) (by omega)
  have p1 := hT.1 (i * 4 + 1) (by omega)
  have p2 := hT.1 (i * 4 + 2) (by omega)
  have p3 := hT.1 (i * 4 + 3) (by omega)
  obtain ⟨t, ht, ea⟩ := va'
  have ia : ds_a S i = t := by
    unfold ds_a
    rw [ea, nI_clamp (by omega)]
  obtain ⟨b, hb, eb⟩ := vb'
  have ib : ds_b S i = b := by
    unfold ds_b
    rw [eb, nI_clamp (by omega)]
  obtain ⟨c, hc, ec⟩ := vc'
  have ic : ds_c S i = c := by
    unfold ds_c
    rw [ec, nI_clamp (by omega)]
  have nc : ¬ ds_ct S i := by
    unfold ds_ct ds_br ds_jp
    rw [k]
    decide
  refine dx_st6 hP h.1 (by omega) (p0.trans k) (p1.trans ea) (p2.trans eb) (p3.trans ec) (by omega) (by omega) (by omega) (fun f => q 0 D jm pl op el _ (Or.inl rfl) (fun _ => dp_nn hi h nc (fun y => ?_))) (fun _ => q 3 D jm pl op el _ (Or.inr ⟨3, by omega, by omega, rfl⟩) (fun z => absurd z (by decide)))
  have g := dp_r3 hP (dp_sa hp (by rw [k]; decide) ia f y)
  exact ⟨g.1, fun _ => by rw [ib]; exact ⟨hb, g.2.1⟩, fun _ => by rw [ic]; exact ⟨hc, g.2.2⟩⟩
theorem dp_g7 {post : Int32 → St2 → Prop} {P L p i D : Nat} {S : Nat → Int32} (hP : P ≤ 8) (hp : p < 32) (hL : L ≤ 64) (hi : i < L) (hT : dp_T L st S) (h : dp_IV P L p S aA po i D op el jm pl) (q : ∀ (r : Int32) (D' : Nat) (jm' pl' op' el' so' : Nat → Int32), (r = 0 ∨ ∃ c, 1 ≤ c ∧ c ≤ 4 ∧ r = nI c) → (r = 0 → dp_IV P L p S aA po (i + 1) D' op' el' jm' pl') → post r (nI P, xC, 0, nI L, nI D', xQ, xS, xK, dA, aA, po, st, jm', pl', op', el', so', ip, va, ov, oc)) (k : S (i * 4) = 7) (va' : dl_v (S (i * 4 + 1))) (vb' : dl_v (S (i * 4 + 2))) (vc' : dl_v (S (i * 4 + 3))) : wpX_statementError post (nI P, xC, 0, nI L, nI D, xQ, xS, xK, dA, aA, po, st, jm, pl, op, el, so, ip, va, ov, oc) (nI i) := by
  have p0 := hT.1 (i * 4) (by omega)
  have p1 := hT.1 (i * 4 + 1) (by omega)
  have p2 := hT.1 (i * 4 + 2) (by omega)
  have p3 := hT.1 (i * 4 + 3) (by omega)
  obtain ⟨t, ht, ea⟩ := va'
  have ia : ds_a S i = t := by
    unfold ds_a
    rw [ea, nI_clamp (by omega)]
  obtain ⟨b, hb, eb⟩ := vb'
  have ib : ds_b S i = b := by
    unfold ds_b
    rw [eb, nI_clamp (by omega)]
  obtain ⟨c, hc, ec⟩ := vc'
  have ic : ds_c S i = c := by
    unfold ds_c
    rw [ec, nI_clamp (by omega)]
  have nc : ¬ ds_ct S i := by
    unfold ds_ct ds_br ds_jp
    rw [k]
    decide
  refine dx_st7 hP h.1 (by omega) (p0.trans k) (p1.trans ea) (p2.trans eb) (p3.trans ec) (by omega) (by omega) (by omega) (fun f => q 0 D jm pl op el _ (Or.inl rfl) (fun _ => dp_nn hi h nc (fun y => ?_))) (fun _ => q 3 D jm pl op el _ (Or.inr ⟨3, by omega, by omega, rfl⟩) (fun z => absurd z (by decide)))
  have g := dp_r3 hP (dp_sa hp (by rw [k]; decide) ia f y)
  exact ⟨g.1, fun _ => by rw [ib]; exact ⟨hb, g.2.1⟩, fun _ => by rw [ic]; exact ⟨hc, g.2.2⟩⟩
theorem dp_g13 {post : Int32 → St2 → Prop} {P L p i D : Nat} {S : Nat → Int32} (hP : P ≤ 8) (hp : p < 32) (hL : L ≤ 64) (hi : i < L) (hT : dp_T L st S) (h : dp_IV P L p S aA po i D op el jm pl) (q : ∀ (r : Int32) (D' : Nat) (jm' pl' op' el' so' : Nat → Int32), (r = 0 ∨ ∃ c, 1 ≤ c ∧ c ≤ 4 ∧ r = nI c) → (r = 0 → dp_IV P L p S aA po (i + 1) D' op' el' jm' pl') → post r (nI P, xC, 0, nI L, nI D', xQ, xS, xK, dA, aA, po, st, jm', pl', op', el', so', ip, va, ov, oc)) (k : S (i * 4) = 13) (va' : dl_v (S (i * 4 + 1))) (vb' : dl_v (S (i * 4 + 2))) : wpX_statementError post (nI P, xC, 0, nI L, nI D, xQ, xS, xK, dA, aA, po, st, jm, pl, op, el, so, ip, va, ov, oc) (nI i) := by
  have p0 := hT.1 (i * 4) (by omega)
  have p1 := hT.1 (i * 4 + 1) (by omega)
  have p2 := hT.1 (i * 4 + 2) (by omega)
  have p3 := hT.1 (i * 4 + 3) (by omega)
  obtain ⟨t, ht, ea⟩ := va'
  have ia : ds_a S i = t := by
    unfold ds_a
    rw [ea, nI_clamp (by omega)]
  obtain ⟨b, hb, eb⟩ := vb'
  have ib : ds_b S i = b := by
    unfold ds_b
    rw [eb, nI_clamp (by omega)]
  have nc : ¬ ds_ct S i := by
    unfold ds_ct ds_br ds_jp
    rw [k]
    decide
  refine dx_st13 hP h.1 (by omega) (p0.trans k) (p1.trans ea) (p2.trans eb) (by omega) (by omega) (fun _ => q 3 D jm pl op el _ (Or.inr ⟨3, by omega, by omega, rfl⟩) (fun z => absurd z (by decide))) (fun _ _ => q 4 D jm pl op el _ (Or.inr ⟨4, by omega, by omega, rfl⟩) (fun z => absurd z (by decide))) (fun f g => q 0 D jm pl op el _ (Or.inl rfl) (fun _ => dp_nn hi h nc (fun y => ?_)))
  have k12 : ¬ S (i * 4) = 12 := by
    rw [k]
    decide
  exact ⟨dp_r1 hP (dp_sa hp k12 ia f y), fun _ => by rw [ib]; exact ⟨hb, dp_rt hP (dp_sa hp k12 ia g y)⟩, fun z => absurd z (by rw [k]; decide)⟩
theorem dp_g8 {post : Int32 → St2 → Prop} {P L p i D : Nat} {S : Nat → Int32} (hP : P ≤ 8) (hp : p < 32) (hL : L ≤ 64) (hi : i < L) (hT : dp_T L st S) (h : dp_IV P L p S aA po i D op el jm pl) (q : ∀ (r : Int32) (D' : Nat) (jm' pl' op' el' so' : Nat → Int32), (r = 0 ∨ ∃ c, 1 ≤ c ∧ c ≤ 4 ∧ r = nI c) → (r = 0 → dp_IV P L p S aA po (i + 1) D' op' el' jm' pl') → post r (nI P, xC, 0, nI L, nI D', xQ, xS, xK, dA, aA, po, st, jm', pl', op', el', so', ip, va, ov, oc)) (k : S (i * 4) = 8) (va' : dl_v (S (i * 4 + 1))) : wpX_statementError post (nI P, xC, 0, nI L, nI D, xQ, xS, xK, dA, aA, po, st, jm, pl, op, el, so, ip, va, ov, oc) (nI i) := by
  have p0 := hT.1 (i * 4) (by omega)
  have p1 := hT.1 (i * 4 + 1) (by omega)
  have p2 := hT.1 (i * 4 + 2) (by omega)
  have p3 := hT.1 (i * 4 + 3) (by omega)
  obtain ⟨t, ht, ea⟩ := va'
  have ia : ds_a S i = t := by
    unfold ds_a
    rw [ea, nI_clamp (by omega)]
  have kb : ds_br (S (i * 4)) := Or.inl k
  rcases Nat.lt_or_ge D 8 with hD | hD
  · exact dx_st8 hD (by omega) (p0.trans k) (p1.trans ea) (by omega) (q 0 (D + 1) jm _ _ _ _ (Or.inl rfl) (fun _ => ⟨by omega, ds_N_o (by omega) h.2.1 kb, dl_K_o hi h.2.2.1 kb, ds_PL_o hP (by omega) ht ia h.2.2.2⟩))
  · have e : D = 8 := by
      have := h.1
      omega
    subst e
    exact dx_st88 (by omega) (p0.trans k) (p1.trans ea) (q 2 8 jm pl op el _ (Or.inr ⟨2, by omega, by omega, rfl⟩) (fun z => absurd z (by decide)))
theorem dp_g11 {post : Int32 → St2 → Prop} {P L p i D : Nat} {S : Nat → Int32} (hP : P ≤ 8) (hp : p < 32) (hL : L ≤ 64) (hi : i < L) (hT : dp_T L st S) (h : dp_IV P L p S aA po i D op el jm pl) (q : ∀ (r : Int32) (D' : Nat) (jm' pl' op' el' so' : Nat → Int32), (r = 0 ∨ ∃ c, 1 ≤ c ∧ c ≤ 4 ∧ r = nI c) → (r = 0 → dp_IV P L p S aA po (i + 1) D' op' el' jm' pl') → post r (nI P, xC, 0, nI L, nI D', xQ, xS, xK, dA, aA, po, st, jm', pl', op', el', so', ip, va, ov, oc)) (k : S (i * 4) = 11) (va' : dl_v (S (i * 4 + 1))) : wpX_statementError post (nI P, xC, 0, nI L, nI D, xQ, xS, xK, dA, aA, po, st, jm, pl, op, el, so, ip, va, ov, oc) (nI i) := by
  have p0 := hT.1 (i * 4) (by omega)
  have p1 := hT.1 (i * 4 + 1) (by omega)
  have p2 := hT.1 (i * 4 + 2) (by omega)
  have p3 := hT.1 (i * 4 + 3) (by omega)
  obtain ⟨t, ht, ea⟩ := va'
  have ia : ds_a S i = t := by
    unfold ds_a
    rw [ea, nI_clamp (by omega)]
  have kb : ds_br (S (i * 4)) := Or.inr k
  rcases Nat.lt_or_ge D 8 with hD | hD
  · exact dx_st11 hD (by omega) (p0.trans k) (p1.trans ea) (by omega) (q 0 (D + 1) jm _ _ _ _ (Or.inl rfl) (fun _ => ⟨by omega, ds_N_o (by omega) h.2.1 kb, dl_K_o hi h.2.2.1 kb, ds_PL_o hP (by omega) ht ia h.2.2.2⟩))
  · have e : D = 8 := by
      have := h.1
      omega
    subst e
    exact dx_st118 (by omega) (p0.trans k) (p1.trans ea) (q 2 8 jm pl op el _ (Or.inr ⟨2, by omega, by omega, rfl⟩) (fun z => absurd z (by decide)))
theorem dp_g9 {post : Int32 → St2 → Prop} {P L p i D : Nat} {S : Nat → Int32} (hP : P ≤ 8) (hp : p < 32) (hL : L ≤ 64) (hi : i < L) (hT : dp_T L st S) (h : dp_IV P L p S aA po i D op el jm pl) (q : ∀ (r : Int32) (D' : Nat) (jm' pl' op' el' so' : Nat → Int32), (r = 0 ∨ ∃ c, 1 ≤ c ∧ c ≤ 4 ∧ r = nI c) → (r = 0 → dp_IV P L p S aA po (i + 1) D' op' el' jm' pl') → post r (nI P, xC, 0, nI L, nI D', xQ, xS, xK, dA, aA, po, st, jm', pl', op', el', so', ip, va, ov, oc)) (k : S (i * 4) = 9) : wpX_statementError post (nI P, xC, 0, nI L, nI D, xQ, xS, xK, dA, aA, po, st, jm, pl, op, el, so, ip, va, ov, oc) (nI i) := by
  have p0 := hT.1 (i * 4) (by omega)
  have p1 := hT.1 (i * 4 + 1) (by omega)
  have p2 := hT.1 (i * 4 + 2) (by omega)
  have p3 := hT.1 (i * 4 + 3) (by omega)
  cases D with
  | zero => exact dx_st90 (by omega) (p0.trans k) (q 1 0 jm pl op el _ (Or.inr ⟨1, by omega, by omega, rfl⟩) (fun z => absurd z (by decide)))
  | succ D =>
    obtain ⟨h1, h2, h3, h4⟩ := h
    obtain ⟨o, o1, o2, o3, _⟩ := h3.1 D (by omega)
    have so' := hT.1 (o * 4) (by omega)
    refine dx_st9 (by omega) o2 (by omega) (by omega) (p0.trans k) (fun _ => q 1 (D + 1) jm pl op el _ (Or.inr ⟨1, by omega, by omega, rfl⟩) (fun z => absurd z (by decide))) (fun f1 f2 => q 0 (D + 1) jm pl op _ _ (Or.inl rfl) (fun _ => ⟨h1, ds_N_e (by omega) h2 k f2, dl_K_e hi h3 k (fun o' w1 w2 w3 => ?_) f2 (by omega), h4⟩))
    have e := (nI_eq (show o' < 2 ^ 31 by omega) (show o < 2 ^ 31 by omega)).mp (w2.symm.trans o2)
    subst e
    exact f1 (so'.trans w3)
theorem dp_end {P L p i D : Nat} {S jm' : Nat → Int32} (hL : L ≤ 64) (hi : i < L) (h : dp_IV P L p S aA po i (D + 1) op el jm pl) (k : S (i * 4) = 10) (h1 : jm' i = dl_tg (fun i => S (i * 4)) L i) (h2 : ∀ q, q < i → op D = nI q → jm' q = dl_tg (fun i => S (i * 4)) L q) (h3 : ∀ q, q < i → el D = nI q → jm' q = dl_tg (fun i => S (i * 4)) L q) (h4 : ∀ q, q < i → ¬ op D = nI q → ¬ el D = nI q → jm' q = jm q) : dp_IV P L p S aA po (i + 1) D op el jm' pl := by
  obtain ⟨g1, g2, g3, g4⟩ := h
  obtain ⟨o, o1, o2, o3, o4, o5⟩ := dl_K_top hi (by omega) g3 k
  have on : ds_on op D = o := by
    unfold ds_on
    rw [o2, nI_clamp (by omega)]
  refine ⟨by omega, ds_N_x (by omega) g2 k ?_ ?_ ?_ ?_, dl_K_x hi g3 k h1 h2 h3 h4, ds_PL_dn g4⟩
  · rw [on, h1, o4]
    by_cases z : (fun i => S (i * 4)) o = 11
    · rw [if_pos z]
      exact ⟨o, rfl, by omega, by omega⟩
    · rw [if_neg z]
      exact ⟨i + 1, rfl, by omega, by omega⟩
  · rw [on, h2 o o1 o2]
    rcases o5 with ⟨_, e⟩ | ⟨m, m1, mm, _, _, m5, _⟩
    · rw [e]
      exact ⟨i + 1, rfl, by omega, by omega⟩
    · rw [m5]
      refine ⟨m + 1, rfl, ?_, by omega⟩
      rcases g2.2.2.1 D (by omega) with z | ⟨m', z1, z2, z3, _⟩
      · exact absurd (z.symm.trans mm) (ds_m1 (by omega))
      · have e := (nI_eq (show m < 2 ^ 31 by omega) (show m' < 2 ^ 31 by omega)).mp (mm.symm.trans z1)
        omega
  · intro m' hm' w
    rw [on, h3 m' hm' w]
    rcases o5 with ⟨e, _⟩ | ⟨m, m1, m2, _, _, _, m6⟩
    · exact absurd (e.symm.trans w) (ds_m1 (by omega))
    · have e := (nI_eq (show m' < 2 ^ 31 by omega) (show m < 2 ^ 31 by omega)).mp (w.symm.trans m2)
      subst e
      rw [m6]
      exact ⟨i + 1, rfl, by omega, by omega⟩
  · intro j hj w1 w2
    rw [on] at w1
    exact h4 j hj (fun z => w1 ((nI_eq (by omega) (by omega)).mp (o2.symm.trans z))) w2
theorem dp_g10 {post : Int32 → St2 → Prop} {P L p i D : Nat} {S : Nat → Int32} (hP : P ≤ 8) (hp : p < 32) (hL : L ≤ 64) (hi : i < L) (hT : dp_T L st S) (h : dp_IV P L p S aA po i D op el jm pl) (q : ∀ (r : Int32) (D' : Nat) (jm' pl' op' el' so' : Nat → Int32), (r = 0 ∨ ∃ c, 1 ≤ c ∧ c ≤ 4 ∧ r = nI c) → (r = 0 → dp_IV P L p S aA po (i + 1) D' op' el' jm' pl') → post r (nI P, xC, 0, nI L, nI D', xQ, xS, xK, dA, aA, po, st, jm', pl', op', el', so', ip, va, ov, oc)) (k : S (i * 4) = 10) : wpX_statementError post (nI P, xC, 0, nI L, nI D, xQ, xS, xK, dA, aA, po, st, jm, pl, op, el, so, ip, va, ov, oc) (nI i) := by
  have p0 := hT.1 (i * 4) (by omega)
  have p1 := hT.1 (i * 4 + 1) (by omega)
  have p2 := hT.1 (i * 4 + 2) (by omega)
  have p3 := hT.1 (i * 4 + 3) (by omega)
  cases D with
  | zero => exact dx_st100 (by omega) (p0.trans k) (q 1 0 jm pl op el _ (Or.inr ⟨1, by omega, by omega, rfl⟩) (fun z => absurd z (by decide)))
  | succ D =>
    have hh := h
    obtain ⟨h1, _, h6, _⟩ := h
    obtain ⟨o, o1, o2, o3, o4, o5⟩ := dl_K_top hi (by omega) h6 k
    have hso := hT.1 (o * 4) (by omega)
    have o4' : dl_tg (fun i => S (i * 4)) L i = if st (o * 4) = 11 then nI o else nI (i + 1) := by
      rw [hso]
      exact o4
    have no : ∀ q, q < i → op D = nI q → q = o := fun q hq w => (nI_eq (by omega) (by omega)).mp (w.symm.trans o2)
    have io : ¬ i = o := by omega
    rcases o5 with ⟨e1, e2⟩ | ⟨m, m1, m2, m3, m4, m5, m6⟩
    · refine dx_st10 (by omega) o2 (by omega) (by omega) (p0.trans k) (fun _ => q 0 D _ pl op el _ (Or.inl rfl) (fun _ => dp_end hL hi hh k ?_ ?_ ?_ ?_)) (fun m w1 w2 => absurd (e1.symm.trans w2) (ds_m1 (by omega))) (Or.inl e1)
      · unfold dl_j1
        rw [pk_us]
        exact o4'.symm
      · intro q hq w
        have e := no q hq w
        subst e
        unfold dl_j1
        rw [pk_un (by omega), pk_us]
        exact e2.symm
      · intro q hq w
        exact absurd (e1.symm.trans w) (ds_m1 (by omega))
      · intro q hq w1 w2
        unfold dl_j1
        rw [pk_un (by omega), pk_un (fun z => w1 (by rw [z]; exact o2))]
    · have nm : ∀ q, q < i → el D = nI q → q = m := fun q hq w => (nI_eq (by omega) (by omega)).mp (w.symm.trans m2)
      have mo : ¬ m = o := fun z => by
        rw [z] at m4
        exact absurd (m3.symm.trans m4) (by decide)
      refine dx_st10 (by omega) o2 (by omega) (by omega) (p0.trans k) (fun w => absurd (w.symm.trans m2) (ds_m1 (by omega))) (fun m' w1 w2 => q 0 D _ pl op el _ (Or.inl rfl) (fun _ => dp_end hL hi hh k ?_ ?_ ?_ ?_)) (Or.inr ⟨m, by omega, m2⟩)
      · unfold dl_j2 dl_j1
        have e := (nI_eq (show m' < 2 ^ 31 by omega) (show m < 2 ^ 31 by omega)).mp (w2.symm.trans m2)
        rw [pk_un (by omega), pk_un (by omega), pk_us]
        exact o4'.symm
      · intro q hq w
        have e := no q hq w
        subst e
        have e' := (nI_eq (show m' < 2 ^ 31 by omega) (show m < 2 ^ 31 by omega)).mp (w2.symm.trans m2)
        subst e'
        unfold dl_j2
        rw [pk_un (fun z => mo z.symm), pk_us]
        exact m5.symm
      · intro q hq w
        have e := nm q hq w
        subst e
        have e' := (nI_eq (show m' < 2 ^ 31 by omega) (show q < 2 ^ 31 by omega)).mp (w2.symm.trans m2)
        subst e'
        unfold dl_j2
        rw [pk_us]
        exact m6.symm
      · intro q hq w1' w2'
        unfold dl_j2 dl_j1
        rw [pk_un (fun z => w2' (by rw [z]; exact w2)), pk_un (fun z => w1' (by rw [z]; exact o2)), pk_un (by omega), pk_un (fun z => w1' (by rw [z]; exact o2))]
theorem dp_g {post : Int32 → St2 → Prop} {P L p i D : Nat} {S : Nat → Int32} (hP : P ≤ 8) (hp : p < 32) (hL : L ≤ 64) (hi : i < L) (hT : dp_T L st S) (h : dp_IV P L p S aA po i D op el jm pl) (q : ∀ (r : Int32) (D' : Nat) (jm' pl' op' el' so' : Nat → Int32), (r = 0 ∨ ∃ c, 1 ≤ c ∧ c ≤ 4 ∧ r = nI c) → (r = 0 → dp_IV P L p S aA po (i + 1) D' op' el' jm' pl') → post r (nI P, xC, 0, nI L, nI D', xQ, xS, xK, dA, aA, po, st, jm', pl', op', el', so', ip, va, ov, oc)) : wpX_statementError post (nI P, xC, 0, nI L, nI D, xQ, xS, xK, dA, aA, po, st, jm, pl, op, el, so, ip, va, ov, oc) (nI i) := by
  rcases hT.2 i hi with ⟨k, h1, _⟩ | ⟨k, h1, h2, _⟩ | ⟨k, h1, h2, _⟩ | ⟨k, h1, h2, h3⟩ | ⟨k, h1, _⟩ | ⟨k, _⟩ | ⟨k, h1, h2, _⟩
  · exact dp_g1 hP hp hL hi hT h q k h1
  · exact dp_g2 hP hp hL hi hT h q k h1 h2
  · exact dp_g13 hP hp hL hi hT h q k h1 h2
  · rcases k with k | k | k | k | k
    · exact dp_g3 hP hp hL hi hT h q k h1 h2 h3
    · exact dp_g4 hP hp hL hi hT h q k h1 h2 h3
    · exact dp_g5 hP hp hL hi hT h q k h1 h2 h3
    · exact dp_g6 hP hp hL hi hT h q k h1 h2 h3
    · exact dp_g7 hP hp hL hi hT h q k h1 h2 h3
  · rcases k with k | k
    · exact dp_g8 hP hp hL hi hT h q k h1
    · exact dp_g11 hP hp hL hi hT h q k h1
  · rcases k with k | k
    · exact dp_g9 hP hp hL hi hT h q k
    · exact dp_g10 hP hp hL hi hT h q k
  · exact dp_g12 hP hp hL hi hT h q k h1 h2
theorem dl_m256 (c i : Nat) : nI c * 256 + nI i = nI (c * 256 + i) := by
  rw [← nI_add, ← pk_mul]
  rfl
theorem dl_1280 (n : Nat) : (1280 : Int32) + nI n = nI (1280 + n) := nI_add 1280 n
theorem dx_first {post : Int32 → St2 → Prop} (h : ∃ n, wX_firstError_28 post n 0 xP xC xA xL 0 xQ xS xK dA aA po st jm (dl_row (fun _ => -1) pl 8) op el so ip va ov oc) : wpX_firstError post (xP, xC, xA, xL, xO, xQ, xS, xK, dA, aA, po, st, jm, pl, op, el, so, ip, va, ov, oc) := by
  unfold wpX_firstError
  refine loop_0 (fun n i a => wX_firstError_7 post xP xC xA xL 0 xQ xS xK n (nI i) dA aA po st jm a op el so ip va ov oc) (fun i a => a = dl_row (fun _ => -1) pl i) 8 pl (dl_row_0 _ _).symm ?_ ?_
  · intro n a ha
    subst ha
    exact br_t (nI_le (a := 8) (b := 8) (by omega) (by omega)) h
  · intro n i a hi ha ih
    subst ha
    refine br_f (nI_ge (b := 8) hi (by omega)) ?_
    rw [dl_c (show i < 2 ^ 31 by omega)]
    exact ⟨vp_in_nI (by omega) (by omega), nm_e (nm_r (nI_1 i) (ih _ (dl_row_s rfl)))⟩
/-- the check's loop -/
theorem dp_loop {post : Int32 → St2 → Prop} {P L p : Nat} {S : Nat → Int32} (hP : P ≤ 8) (hp : p < 32) (hL : L ≤ 64) (hT : dp_T L st S) (q : ∀ (r : Int32) (D' : Nat) (jm' pl' op' el' so' : Nat → Int32), (r = 0 → dp_IV P L p S aA po L 0 op' el' jm' pl') → post r (nI P, xC, 0, nI L, nI D', xQ, xS, xK, dA, aA, po, st, jm', pl', op', el', so', ip, va, ov, oc)) : ∀ (d i D : Nat) (jm pl op el so : Nat → Int32), i + d = L → dp_IV P L p S aA po i D op el jm pl → wX_firstError_28 post (d + 1) (nI i) (nI P) xC 0 (nI L) (nI D) xQ xS xK dA aA po st jm pl op el so ip va ov oc := by
  intro d
  induction d with
  | zero =>
    intro i D jm pl op el so hd h
    have e : i = L := by omega
    subst e
    have le : nI i ≤ nI i := nI_le (Nat.le_refl _) (by omega)
    cases D with
    | zero => exact br_t le (br_t nI_0 (q 0 0 jm pl op el so (fun _ => h)))
    | succ D =>
      have hD := h.1
      exact br_t le (br_f (nI_ne0 (by omega) (by omega)) (q _ (D + 1) jm pl op el so (fun z => absurd z (by rw [dl_1280]; exact nI_ne0 (by omega) (by omega)))))
  | succ d ih =>
    intro i D jm pl op el so hd h
    have hi : i < L := by omega
    have nle : ¬ nI L ≤ nI i := nI_ge hi (by omega)
    refine br_f nle (dp_g hP hp hL hi hT h (fun r D' jm' pl' op' el' so' hr hiv => ?_))
    rcases hr with hr | ⟨c, c1, c4, hr⟩
    · exact br_t hr (nm_r (nI_1 i) (ih (i + 1) D' jm' pl' op' el' so' (by omega) (hiv hr)))
    · have nz : ¬ r = 0 := by
        rw [hr]
        exact nI_ne0 (by omega) (by omega)
      exact br_f nz (q _ D' jm' pl' op' el' so' (fun z => absurd z (by rw [hr, dl_m256]; exact nI_ne0 (by omega) (by omega))))
/-- what an object is when its check passed: jumps, labels -/
def dp_C (P L p : Nat) (S : Nat → Int32) (lv lc : Nat → Prop) (u : St2) : Prop := match u with
  | (xP, xC, xA, xL, xO, xQ, xS, xK, dA, aA, po, st, jm, pl, op, el, so, ip, va, ov, oc) => (¬ xS = 0) ∧ (∀ q, q < L → ds_ct S q → jm q = dl_tg (fun i => S (i * 4)) L q) ∧ lv = ds_lv P aA po p ∧ lc = ds_lc P aA po p ∧ ds_F S (fun q => dl_tg (fun i => S (i * 4)) L q) L lv lc
theorem ds_F_c {S jm jm' : Nat → Int32} {L : Nat} {lv lc : Nat → Prop} (h : ds_F S jm L lv lc) (e : ∀ q, q < L → ds_ct S q → jm q = jm' q) : ds_F S jm' L lv lc := by
  refine ⟨h.1, fun q hq hb => ?_⟩
  obtain ⟨x, x1, x2, x3, x4⟩ := h.2 q hq hb
  refine ⟨x, x1, x2, fun i i1 i2 hc => ?_, x4⟩
  rw [← e i (by omega) hc]
  exact x3 i i1 i2 hc
theorem dp_check {post : Int32 → St2 → Prop} {P L p : Nat} {S : Nat → Int32} {u : St2} (hp : p < 32) (h : dp_X P L S u) (q : ∀ r u', dp_X P L S u' → (r = 0 → ∃ lv lc, dp_C P L p S lv lc u') → post r u') : wpX_check post u := by
  obtain ⟨xP, xC, xA, xL, xO, xQ, xS, xK, dA, aA, po, st, jm, pl, op, el, so, ip, va, ov, oc⟩ := u
  obtain ⟨rfl, rfl, rfl, rfl, rfl, ⟨P2, P8⟩, hL, hT⟩ := h
  unfold wpX_check
  refine dx_reset (dx_first ⟨L + 1, ?_⟩)
  have iv0 : dp_IV P L p S aA po 0 0 op el jm (dl_row (fun _ => -1) pl 8) := ⟨by omega, ds_N0 _ _ _ _ _ _, dl_K0 _ _ _ _ _, ds_PL_0 _ _ _ _ _ _ _⟩
  refine dp_loop P8 hp hL hT (fun r D' jm' pl' op' el' so' hr => ?_) L 0 0 jm (dl_row (fun _ => -1) pl 8) op el so (by omega) iv0
  refine br_c (fun z => q _ _ ⟨rfl, rfl, rfl, rfl, rfl, ⟨P2, P8⟩, hL, hT⟩ (fun _ => ?_)) (fun z => q _ _ ⟨rfl, rfl, rfl, rfl, rfl, ⟨P2, P8⟩, hL, hT⟩ (fun y => absurd y z))
  have iv := hr z
  have kf := dl_K_fin iv.2.2.1
  have je : ∀ q, q < L → ds_ct S q → jm' q = dl_tg (fun i => S (i * 4)) L q := fun q hq hc => kf q hq (dp_ct.mpr hc)
  exact ⟨ds_lv P aA po p, ds_lc P aA po p, by decide, je, rfl, rfl, ds_F_c (ds_N_fin (by omega) iv.2.1).1 je⟩
end
