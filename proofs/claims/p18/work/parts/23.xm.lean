/-! p18: the component's small methods, over a program S -/
section
variable {xP xC xA xL xO xQ xS xK : Int32} {dA aA po st jm pl op el so ip va ov oc : Nat → Int32}
def dl_v (x : Int32) : Prop := ∃ n, n < 16 ∧ x = nI n
def dl_hc (x : Int32) : Prop := ∃ n, n < 4 ∧ x = nI n
/-- arguments that addStmt takes -/
def dl_ok (k a b c : Int32) : Prop := (k = 1 ∧ dl_v a) ∨ (k = 2 ∧ dl_v a ∧ dl_v b) ∨ (k = 13 ∧ dl_v a ∧ dl_v b) ∨ ((k = 3 ∨ k = 4 ∨ k = 5 ∨ k = 6 ∨ k = 7) ∧ dl_v a ∧ dl_v b ∧ dl_v c) ∨ ((k = 8 ∨ k = 11) ∧ dl_v a) ∨ (k = 9 ∨ k = 10) ∨ (k = 12 ∧ dl_hc a ∧ dl_v b)
/-- a stored statement -/
def dp_ok (k a b c : Int32) : Prop := (k = 1 ∧ dl_v a ∧ c = 0) ∨ (k = 2 ∧ dl_v a ∧ dl_v b ∧ c = 0) ∨ (k = 13 ∧ dl_v a ∧ dl_v b ∧ c = 0) ∨ ((k = 3 ∨ k = 4 ∨ k = 5 ∨ k = 6 ∨ k = 7) ∧ dl_v a ∧ dl_v b ∧ dl_v c) ∨ ((k = 8 ∨ k = 11) ∧ dl_v a ∧ b = 0 ∧ c = 0) ∨ ((k = 9 ∨ k = 10) ∧ a = 0 ∧ b = 0 ∧ c = 0) ∨ (k = 12 ∧ dl_hc a ∧ dl_v b ∧ c = 0)
def dp_na (k a : Int32) : Int32 := if k = 9 ∨ k = 10 then 0 else a
def dp_nb (k b : Int32) : Int32 := if k = 9 ∨ k = 10 ∨ k = 8 ∨ k = 11 then 0 else b
def dp_nc (k c : Int32) : Int32 := if k = 3 ∨ k = 4 ∨ k = 5 ∨ k = 6 ∨ k = 7 then c else 0
theorem dp_na1 (a : Int32) : dp_na 1 a = a := if_neg (by decide)
theorem dp_nb1 (b : Int32) : dp_nb 1 b = b := if_neg (by decide)
theorem dp_nc1 (c : Int32) : dp_nc 1 c = 0 := if_neg (by decide)
theorem dp_na2 (a : Int32) : dp_na 2 a = a := if_neg (by decide)
theorem dp_nb2 (b : Int32) : dp_nb 2 b = b := if_neg (by decide)
theorem dp_nc2 (c : Int32) : dp_nc 2 c = 0 := if_neg (by decide)
theorem dp_na3 (a : Int32) : dp_na 3 a = a := if_neg (by decide)
theorem dp_nb3 (b : Int32) : dp_nb 3 b = b := if_neg (by decide)
theorem dp_nc3 (c : Int32) : dp_nc 3 c = c := if_pos (by decide)
theorem dp_na4 (a : Int32) : dp_na 4 a = a := if_neg (by decide)
theorem dp_nb4 (b : Int32) : dp_nb 4 b = b := if_neg (by decide)
theorem dp_nc4 (c : Int32) : dp_nc 4 c = c := if_pos (by decide)
theorem dp_na5 (a : Int32) : dp_na 5 a = a := if_neg (by decide)
theorem dp_nb5 (b : Int32) : dp_nb 5 b = b := if_neg (by decide)
theorem dp_nc5 (c : Int32) : dp_nc 5 c = c := if_pos (by decide)
theorem dp_na6 (a : Int32) : dp_na 6 a = a := if_neg (by decide)
theorem dp_nb6 (b : Int32) : dp_nb 6 b = b := if_neg (by decide)
theorem dp_nc6 (c : Int32) : dp_nc 6 c = c := if_pos (by decide)
theorem dp_na7 (a : Int32) : dp_na 7 a = a := if_neg (by decide)
theorem dp_nb7 (b : Int32) : dp_nb 7 b = b := if_neg (by decide)
theorem dp_nc7 (c : Int32) : dp_nc 7 c = c := if_pos (by decide)
theorem dp_na8 (a : Int32) : dp_na 8 a = a := if_neg (by decide)
theorem dp_nb8 (b : Int32) : dp_nb 8 b = 0 := if_pos (by decide)
theorem dp_nc8 (c : Int32) : dp_nc 8 c = 0 := if_neg (by decide)
theorem dp_na9 (a : Int32) : dp_na 9 a = 0 := if_pos (by decide)
theorem dp_nb9 (b : Int32) : dp_nb 9 b = 0 := if_pos (by decide)
theorem dp_nc9 (c : Int32) : dp_nc 9 c = 0 := if_neg (by decide)
theorem dp_na10 (a : Int32) : dp_na 10 a = 0 := if_pos (by decide)
theorem dp_nb10 (b : Int32) : dp_nb 10 b = 0 := if_pos (by decide)
theorem dp_nc10 (c : Int32) : dp_nc 10 c = 0 := if_neg (by decide)
theorem dp_na11 (a : Int32) : dp_na 11 a = a := if_neg (by decide)
theorem dp_nb11 (b : Int32) : dp_nb 11 b = 0 := if_pos (by decide)
theorem dp_nc11 (c : Int32) : dp_nc 11 c = 0 := if_neg (by decide)
theorem dp_na12 (a : Int32) : dp_na 12 a = a := if_neg (by decide)
theorem dp_nb12 (b : Int32) : dp_nb 12 b = b := if_neg (by decide)
theorem dp_nc12 (c : Int32) : dp_nc 12 c = 0 := if_neg (by decide)
theorem dp_na13 (a : Int32) : dp_na 13 a = a := if_neg (by decide)
theorem dp_nb13 (b : Int32) : dp_nb 13 b = b := if_neg (by decide)
theorem dp_nc13 (c : Int32) : dp_nc 13 c = 0 := if_neg (by decide)
theorem dp_okn {k a b c : Int32} (h : dl_ok k a b c) : dp_ok k (dp_na k a) (dp_nb k b) (dp_nc k c) := by
  rcases h with ⟨rfl, h1⟩ | ⟨rfl, h1, h2⟩ | ⟨rfl, h1, h2⟩ | ⟨rfl | rfl | rfl | rfl | rfl, h1, h2, h3⟩ | ⟨rfl | rfl, h1⟩ | (rfl | rfl) | ⟨rfl, h1, h2⟩
  · rw [dp_na1, dp_nb1, dp_nc1]
    exact Or.inl ⟨rfl, h1, rfl⟩
  · rw [dp_na2, dp_nb2, dp_nc2]
    exact Or.inr (Or.inl ⟨rfl, h1, h2, rfl⟩)
  · rw [dp_na13, dp_nb13, dp_nc13]
    exact Or.inr (Or.inr (Or.inl ⟨rfl, h1, h2, rfl⟩))
  · rw [dp_na3, dp_nb3, dp_nc3]
    exact Or.inr (Or.inr (Or.inr (Or.inl ⟨Or.inl rfl, h1, h2, h3⟩)))
  · rw [dp_na4, dp_nb4, dp_nc4]
    exact Or.inr (Or.inr (Or.inr (Or.inl ⟨Or.inr (Or.inl rfl), h1, h2, h3⟩)))
  · rw [dp_na5, dp_nb5, dp_nc5]
    exact Or.inr (Or.inr (Or.inr (Or.inl ⟨Or.inr (Or.inr (Or.inl rfl)), h1, h2, h3⟩)))
  · rw [dp_na6, dp_nb6, dp_nc6]
    exact Or.inr (Or.inr (Or.inr (Or.inl ⟨Or.inr (Or.inr (Or.inr (Or.inl rfl))), h1, h2, h3⟩)))
  · rw [dp_na7, dp_nb7, dp_nc7]
    exact Or.inr (Or.inr (Or.inr (Or.inl ⟨Or.inr (Or.inr (Or.inr (Or.inr rfl))), h1, h2, h3⟩)))
  · rw [dp_na8, dp_nb8, dp_nc8]
    exact Or.inr (Or.inr (Or.inr (Or.inr (Or.inl ⟨Or.inl rfl, h1, rfl, rfl⟩))))
  · rw [dp_na11, dp_nb11, dp_nc11]
    exact Or.inr (Or.inr (Or.inr (Or.inr (Or.inl ⟨Or.inr rfl, h1, rfl, rfl⟩))))
  · rw [dp_na9, dp_nb9, dp_nc9]
    exact Or.inr (Or.inr (Or.inr (Or.inr (Or.inr (Or.inl ⟨Or.inl rfl, rfl, rfl, rfl⟩)))))
  · rw [dp_na10, dp_nb10, dp_nc10]
    exact Or.inr (Or.inr (Or.inr (Or.inr (Or.inr (Or.inl ⟨Or.inr rfl, rfl, rfl, rfl⟩)))))
  · rw [dp_na12, dp_nb12, dp_nc12]
    exact Or.inr (Or.inr (Or.inr (Or.inr (Or.inr (Or.inr ⟨rfl, h1, h2, rfl⟩)))))
theorem dp_ok_n {k a b c : Int32} (h : dp_ok k a b c) : dl_ok k a b c ∧ dp_na k a = a ∧ dp_nb k b = b ∧ dp_nc k c = c := by
  rcases h with ⟨rfl, h1, rfl⟩ | ⟨rfl, h1, h2, rfl⟩ | ⟨rfl, h1, h2, rfl⟩ | ⟨rfl | rfl | rfl | rfl | rfl, h1, h2, h3⟩ | ⟨rfl | rfl, h1, rfl, rfl⟩ | ⟨rfl | rfl, rfl, rfl, rfl⟩ | ⟨rfl, h1, h2, rfl⟩
  · exact ⟨Or.inl ⟨rfl, h1⟩, dp_na1 _, dp_nb1 _, dp_nc1 _⟩
  · exact ⟨Or.inr (Or.inl ⟨rfl, h1, h2⟩), dp_na2 _, dp_nb2 _, dp_nc2 _⟩
  · exact ⟨Or.inr (Or.inr (Or.inl ⟨rfl, h1, h2⟩)), dp_na13 _, dp_nb13 _, dp_nc13 _⟩
  · exact ⟨Or.inr (Or.inr (Or.inr (Or.inl ⟨Or.inl rfl, h1, h2, h3⟩))), dp_na3 _, dp_nb3 _, dp_nc3 _⟩
  · exact ⟨Or.inr (Or.inr (Or.inr (Or.inl ⟨Or.inr (Or.inl rfl), h1, h2, h3⟩))), dp_na4 _, dp_nb4 _, dp_nc4 _⟩
  · exact ⟨Or.inr (Or.inr (Or.inr (Or.inl ⟨Or.inr (Or.inr (Or.inl rfl)), h1, h2, h3⟩))), dp_na5 _, dp_nb5 _, dp_nc5 _⟩
  · exact ⟨Or.inr (Or.inr (Or.inr (Or.inl ⟨Or.inr (Or.inr (Or.inr (Or.inl rfl))), h1, h2, h3⟩))), dp_na6 _, dp_nb6 _, dp_nc6 _⟩
  · exact ⟨Or.inr (Or.inr (Or.inr (Or.inl ⟨Or.inr (Or.inr (Or.inr (Or.inr rfl))), h1, h2, h3⟩))), dp_na7 _, dp_nb7 _, dp_nc7 _⟩
  · exact ⟨Or.inr (Or.inr (Or.inr (Or.inr (Or.inl ⟨Or.inl rfl, h1⟩)))), dp_na8 _, dp_nb8 _, dp_nc8 _⟩
  · exact ⟨Or.inr (Or.inr (Or.inr (Or.inr (Or.inl ⟨Or.inr rfl, h1⟩)))), dp_na11 _, dp_nb11 _, dp_nc11 _⟩
  · exact ⟨Or.inr (Or.inr (Or.inr (Or.inr (Or.inr (Or.inl (Or.inl rfl)))))), dp_na9 _, dp_nb9 _, dp_nc9 _⟩
  · exact ⟨Or.inr (Or.inr (Or.inr (Or.inr (Or.inr (Or.inl (Or.inr rfl)))))), dp_na10 _, dp_nb10 _, dp_nc10 _⟩
  · exact ⟨Or.inr (Or.inr (Or.inr (Or.inr (Or.inr (Or.inr ⟨rfl, h1, h2⟩))))), dp_na12 _, dp_nb12 _, dp_nc12 _⟩
/-- the program of an object -/
def dp_T (L : Nat) (st S : Nat → Int32) : Prop := (∀ x, x < L * 4 → st x = S x) ∧ ∀ i, i < L → dp_ok (S (i * 4)) (S (i * 4 + 1)) (S (i * 4 + 2)) (S (i * 4 + 3))
def dp_X (P L : Nat) (S : Nat → Int32) (u : St2) : Prop := match u with
  | (xP, xC, xA, xL, xO, xQ, xS, xK, dA, aA, po, st, jm, pl, op, el, so, ip, va, ov, oc) => xP = nI P ∧ xC = 64 ∧ xA = 0 ∧ xL = nI L ∧ ip = (fun _ => 0) ∧ (2 ≤ P ∧ P ≤ 8) ∧ L ≤ 64 ∧ dp_T L st S
theorem dp_T_c {L : Nat} {st S S' : Nat → Int32} (h : dp_T L st S) (e : ∀ x, x < L * 4 → S x = S' x) : dp_T L st S' := by
  refine ⟨fun x hx => (h.1 x hx).trans (e x hx), fun i hi => ?_⟩
  rw [← e (i * 4) (by omega), ← e (i * 4 + 1) (by omega), ← e (i * 4 + 2) (by omega), ← e (i * 4 + 3) (by omega)]
  exact h.2 i hi
theorem dp_X_c {P L : Nat} {S S' : Nat → Int32} {u : St2} (h : dp_X P L S u) (e : ∀ x, x < L * 4 → S x = S' x) : dp_X P L S' u := by
  obtain ⟨xP, xC, xA, xL, xO, xQ, xS, xK, dA, aA, po, st, jm, pl, op, el, so, ip, va, ov, oc⟩ := u
  obtain ⟨h1, h2, h3, h4, h5, h6, h7, h8⟩ := h
  exact ⟨h1, h2, h3, h4, h5, h6, h7, dp_T_c h8 e⟩
def dl_w (st : Nat → Int32) (L : Nat) (k a b c : Int32) : Nat → Int32 := upd (upd (upd (upd st (L * 4) k) (L * 4 + 1) a) (L * 4 + 2) b) (L * 4 + 3) c
theorem dl_w0 (st : Nat → Int32) (L : Nat) (k a b c : Int32) : dl_w st L k a b c (L * 4) = k ∧ dl_w st L k a b c (L * 4 + 1) = a ∧ dl_w st L k a b c (L * 4 + 2) = b ∧ dl_w st L k a b c (L * 4 + 3) = c := by
  unfold dl_w
  refine ⟨?_, ?_, ?_, ?_⟩
  · rw [pk_un (by omega), pk_un (by omega), pk_un (by omega), pk_us]
  · rw [pk_un (by omega), pk_un (by omega), pk_us]
  · rw [pk_un (by omega), pk_us]
  · rw [pk_us]
theorem dl_w1 {st : Nat → Int32} {L x : Nat} {k a b c : Int32} (h : x < L * 4) : dl_w st L k a b c x = st x := by
  unfold dl_w
  rw [pk_un (by omega), pk_un (by omega), pk_un (by omega), pk_un (by omega)]
theorem dp_T_w {L : Nat} {st S : Nat → Int32} {k a b c : Int32} (h : dp_T L st S) (ok : dp_ok k a b c) : dp_T (L + 1) (dl_w st L k a b c) (dl_w S L k a b c) := by
  obtain ⟨s0, s1, s2, s3⟩ := dl_w0 st L k a b c
  obtain ⟨t0, t1, t2, t3⟩ := dl_w0 S L k a b c
  refine ⟨fun x hx => ?_, fun i hi => ?_⟩
  · rcases Nat.lt_or_ge x (L * 4) with z | z
    · rw [dl_w1 z, dl_w1 z]
      exact h.1 x z
    · have e : x = L * 4 ∨ x = L * 4 + 1 ∨ x = L * 4 + 2 ∨ x = L * 4 + 3 := by omega
      rcases e with e | e | e | e <;> subst e
      · rw [s0, t0]
      · rw [s1, t1]
      · rw [s2, t2]
      · rw [s3, t3]
  · rcases Nat.lt_or_ge i L with z | z
    · rw [dl_w1 (by omega), dl_w1 (by omega), dl_w1 (by omega), dl_w1 (by omega)]
      exact h.2 i z
    · have e : i = L := by omega
      subst e
      rw [t0, t1, t2, t3]
      exact ok
/-! ranges -/
theorem dl_rg (x : Int32) {n : Nat} (hn : n < 2 ^ 31) : (x < 0 ∨ (¬ x < 0 ∧ nI n ≤ x)) ∨ ∃ j : Nat, j < n ∧ x = nI j := by
  by_cases h : x < 0
  · exact Or.inl (Or.inl h)
  · rcases pk_ix x hn with z | z | z
    · exact absurd z h
    · exact Or.inl (Or.inr ⟨h, z⟩)
    · exact Or.inr z
theorem dx_isP1 {post : Int32 → Prop} {P j : Nat} (hP : P ≤ 8) (hj : j < P) (h : post 1) : wpX_isPrincipal post (nI P, xC, xA, xL, xO, xQ, xS, xK, dA, aA, po, st, jm, pl, op, el, so, ip, va, ov, oc) (nI j) := by
  unfold wpX_isPrincipal
  exact br_f (nI_pos (by omega)) (br_f (nI_ge hj (by omega)) h)
theorem dx_isP0 {post : Int32 → Prop} {P : Nat} {x : Int32} (b : x < 0 ∨ (¬ x < 0 ∧ nI P ≤ x)) (h : post 0) : wpX_isPrincipal post (nI P, xC, xA, xL, xO, xQ, xS, xK, dA, aA, po, st, jm, pl, op, el, so, ip, va, ov, oc) x := by
  unfold wpX_isPrincipal
  rcases b with b | b
  · exact br_t b h
  · exact br_f b.1 (br_t b.2 h)
theorem dx_isTarget1 {post : Int32 → Prop} {j : Nat} (hj : j < 20) (h : post 1) : wpX_isTarget post () (nI j) := by
  unfold wpX_isTarget
  exact br_f (nI_pos (by omega)) (br_f (nI_ge (b := 20) hj (by omega)) h)
theorem dx_isTarget0 {post : Int32 → Prop} {x : Int32} (b : x < 0 ∨ (¬ x < 0 ∧ nI 20 ≤ x)) (h : post 0) : wpX_isTarget post () x := by
  unfold wpX_isTarget
  rcases b with b | b
  · exact br_t b h
  · exact br_f b.1 (br_t b.2 h)
theorem dx_isVariable1 {post : Int32 → Prop} {j : Nat} (hj : j < 16) (h : post 1) : wpX_isVariable post () (nI j) := by
  unfold wpX_isVariable
  exact br_f (nI_pos (by omega)) (br_f (nI_ge (b := 16) hj (by omega)) h)
theorem dx_isVariable0 {post : Int32 → Prop} {x : Int32} (b : x < 0 ∨ (¬ x < 0 ∧ nI 16 ≤ x)) (h : post 0) : wpX_isVariable post () x := by
  unfold wpX_isVariable
  rcases b with b | b
  · exact br_t b h
  · exact br_f b.1 (br_t b.2 h)
theorem dx_isChannel1 {post : Int32 → Prop} {j : Nat} (hj : j < 4) (h : post 1) : wpX_isChannel post () (nI j) := by
  unfold wpX_isChannel
  exact br_f (nI_pos (by omega)) (br_f (nI_ge (b := 4) hj (by omega)) h)
theorem dx_isChannel0 {post : Int32 → Prop} {x : Int32} (b : x < 0 ∨ (¬ x < 0 ∧ nI 4 ≤ x)) (h : post 0) : wpX_isChannel post () x := by
  unfold wpX_isChannel
  rcases b with b | b
  · exact br_t b h
  · exact br_f b.1 (br_t b.2 h)
theorem dp_isPS {post : Int32 → Prop} {x : Int32} (h : ∀ r, post r) : wpX_isPrincipalSet post (xP, xC, xA, xL, xO, xQ, xS, xK, dA, aA, po, st, jm, pl, op, el, so, ip, va, ov, oc) x := br_c (fun _ => h 0) (fun _ => br_c (fun _ => h 0) (fun _ => h 1))
/-! closing the actors: it ends -/
theorem dp_c44 {post : St2 → Prop} {J : Int32 → (Nat → Int32) → (Nat → Int32) → (Nat → Int32) → (Nat → Int32) → (Nat → Int32) → (Nat → Int32) → (Nat → Int32) → (Nat → Int32) → (Nat → Int32) → (Nat → Int32) → (Nat → Int32) → (Nat → Int32) → (Nat → Int32) → Prop} {P m : Nat} (hP : P ≤ 8) (hm : m < P) (h : ∀ A', J (nI (m + 1)) dA A' po st jm pl op el so ip va ov oc) : ∃ n, wX_closeActors_44 post J (nI m) (nI P) xC xA xL xO xQ xS xK n 0 dA aA po st jm pl op el so ip va ov oc := by
  refine loop_0 (fun n i a => wX_closeActors_44 post J (nI m) (nI P) xC xA xL xO xQ xS xK n (nI i) dA a po st jm pl op el so ip va ov oc) (fun _ _ => True) P aA trivial ?_ ?_
  · intro n a _
    exact br_t (nI_le (Nat.le_refl _) (by omega)) (nm_r (nI_1 m) (h a))
  · intro n i a hi _ ih
    have v : vp_in (nI i) 8 := vp_in_nI (by omega) (by omega)
    exact br_f (nI_ge hi (by omega)) ⟨v, dx_contains (by omega) (fun _ => br_f (by decide) ⟨v, vp_in_nI (by omega) (by omega), v, nm_e (nm_r (nI_1 i) (ih _ trivial))⟩) (fun _ => br_t rfl (nm_r (nI_1 i) (ih _ trivial)))⟩
theorem dp_c34 {post : St2 → Prop} {P : Nat} (hP : P ≤ 8) (h : ∀ A', post (nI P, xC, xA, xL, xO, xQ, xS, xK, dA, A', po, st, jm, pl, op, el, so, ip, va, ov, oc)) : ∃ n, wX_closeActors_34 post (nI P) xC xA xL xO xQ xS xK n 0 dA aA po st jm pl op el so ip va ov oc := by
  refine loop_0 (fun n m a => wX_closeActors_34 post (nI P) xC xA xL xO xQ xS xK n (nI m) dA a po st jm pl op el so ip va ov oc) (fun _ _ => True) P aA trivial ?_ ?_
  · intro n a _
    exact br_t (nI_le (Nat.le_refl _) (by omega)) (h a)
  · intro n m a hm _ ih
    exact br_f (nI_ge hm (by omega)) (dp_c44 hP hm (fun A' => ih A' trivial))
theorem dp_close {post : St2 → Prop} {P : Nat} (hP : P ≤ 8) (h : ∀ A', post (nI P, xC, xA, xL, xO, xQ, xS, xK, dA, A', po, st, jm, pl, op, el, so, ip, va, ov, oc)) : wpX_closeActors post (nI P, xC, xA, xL, xO, xQ, xS, xK, dA, aA, po, st, jm, pl, op, el, so, ip, va, ov, oc) := by
  refine loop_0 (fun n i a => wX_closeActors_2 post (nI P) xC xA xL xO xQ xS xK n (nI i) dA a po st jm pl op el so ip va ov oc) (fun _ _ => True) P aA trivial ?_ ?_
  · intro n a _
    exact br_t (nI_le (Nat.le_refl _) (by omega)) (dp_c34 hP h)
  · intro n i a hi _ ih
    have v : vp_in (nI i) 8 := vp_in_nI (by omega) (by omega)
    exact br_f (nI_ge hi (by omega)) ⟨v, v, nm_e (nm_r (nI_1 i) (ih _ trivial))⟩
theorem dp_init {post : St2 → Prop} {P : Nat} (P2 : 2 ≤ P) (P8 : P ≤ 8) (q : ∀ u', dp_X P 0 (fun _ => 0) u' → post u') : wpX_init post 13 692 (0, 0, 0, 0, 0, 0, 0, 0) (nI P) 64 := by
  unfold wpX_init
  refine ⟨by omega, by omega, by omega, by omega, by omega, by omega, by omega, by omega, by omega, by omega, by omega, by omega, by omega, by omega, by omega, by omega, by omega, by omega, by omega, by omega, by omega, by omega, by omega, by omega, by omega, by omega, ?_⟩
  unfold wpX_clamp
  refine br_t (nI_le (a := 2) P2 (by omega)) (br_t (nI_le (b := 8) P8 (by omega)) (br_t (by decide) (br_t (by decide) ?_)))
  refine loop_0 (fun n i a => wX_init_134 post 13 692 13 692 (nI P) 64 0 0 0 0 0 0 n (nI i) (fun _ => 0) (fun _ => 0) a (fun _ => 0) (fun _ => 0) (fun _ => 0) (fun _ => 0) (fun _ => 0) (fun _ => 0) (fun _ => 0) (fun _ => 0) (fun _ => 0) (fun _ => 0)) (fun _ _ => True) 160 (fun _ => 0) trivial ?_ ?_
  · intro n a _
    refine br_t (nI_le (a := 160) (b := 160) (by omega) (by omega)) (dp_close P8 (fun A' => dx_reset (q _ ?_)))
    exact ⟨rfl, rfl, rfl, rfl, rfl, ⟨P2, P8⟩, by omega, fun x hx => absurd hx (by omega), fun i hi => absurd hi (by omega)⟩
  · intro n i a hi _ ih
    exact br_f (nI_ge (b := 160) hi (by omega)) ⟨vp_in_nI hi (by omega), nm_e (nm_r (nI_1 i) (ih _ trivial))⟩
theorem dp_acts {post : Int32 → St2 → Prop} {P L : Nat} {S : Nat → Int32} {u : St2} {a b c : Int32} (h : dp_X P L S u) (q : ∀ r u', dp_X P L S u' → post r u') : wpX_setActsFor post u a b c := by
  obtain ⟨xP, xC, xA, xL, xO, xQ, xS, xK, dA, aA, po, st, jm, pl, op, el, so, ip, va, ov, oc⟩ := u
  obtain ⟨rfl, rfl, rfl, rfl, rfl, ⟨P2, P8⟩, hL, hT⟩ := h
  have K : dp_X P L S (nI P, 64, 0, nI L, xO, xQ, xS, xK, dA, aA, po, st, jm, pl, op, el, so, (fun _ => 0), va, ov, oc) := ⟨rfl, rfl, rfl, rfl, rfl, ⟨P2, P8⟩, hL, hT⟩
  have fin : ∀ D2 : Nat → Int32, wX_setActsFor_56 post (nI P) 64 0 (nI L) xO xQ xS xK D2 aA po st jm pl op el so (fun _ => 0) va ov oc := by
    intro D2
    unfold wX_setActsFor_56
    exact dp_close P8 (fun A' => dx_reset (q _ _ ⟨rfl, rfl, rfl, rfl, rfl, ⟨P2, P8⟩, hL, hT⟩))
  unfold wpX_setActsFor
  rcases dl_rg a (n := P) (by omega) with ba | ⟨i, hi, rfl⟩
  · exact dx_isP0 ba (br_t rfl (q _ _ K))
  rcases dl_rg b (n := P) (by omega) with bb | ⟨j, hj, rfl⟩
  · exact dx_isP1 P8 hi (br_f (by decide) (dx_isP0 bb (br_t rfl (q _ _ K))))
  have v : vp_in (nI j) 8 := vp_in_nI (by omega) (by omega)
  exact dx_isP1 P8 hi (br_f (by decide) (dx_isP1 P8 hj (br_f (by decide) (br_c (fun _ => q _ _ K) (fun _ => br_c (fun _ => ⟨v, v, nm_e (fin _)⟩) (fun _ => ⟨v, v, nm_e (fin _)⟩))))))
theorem dp_pol {post : Int32 → St2 → Prop} {P L : Nat} {S : Nat → Int32} {u : St2} {a b c : Int32} (h : dp_X P L S u) (q : ∀ r u', dp_X P L S u' → post r u') : wpX_setPolicy post u a b c := by
  obtain ⟨xP, xC, xA, xL, xO, xQ, xS, xK, dA, aA, po, st, jm, pl, op, el, so, ip, va, ov, oc⟩ := u
  obtain ⟨rfl, rfl, rfl, rfl, rfl, ⟨P2, P8⟩, hL, hT⟩ := h
  have K : dp_X P L S (nI P, 64, 0, nI L, xO, xQ, xS, xK, dA, aA, po, st, jm, pl, op, el, so, (fun _ => 0), va, ov, oc) := ⟨rfl, rfl, rfl, rfl, rfl, ⟨P2, P8⟩, hL, hT⟩
  unfold wpX_setPolicy
  rcases dl_rg a (n := 20) (by omega) with ba | ⟨i, hi, rfl⟩
  · exact dx_isTarget0 ba (br_t rfl (q _ _ K))
  rcases dl_rg b (n := P) (by omega) with bb | ⟨j, hj, rfl⟩
  · exact dx_isTarget1 hi (br_f (by decide) (dx_isP0 bb (br_t rfl (q _ _ K))))
  have fin : wX_setPolicy_32 post (nI i) (nI j) c (nI P) 64 0 (nI L) xO xQ xS xK dA aA po st jm pl op el so (fun _ => 0) va ov oc := by
    unfold wX_setPolicy_32 wpX_cell
    rw [dl_m8]
    exact ⟨vp_in_nI (by omega) (by omega), nm_e (dx_reset (q _ _ ⟨rfl, rfl, rfl, rfl, rfl, ⟨P2, P8⟩, hL, hT⟩))⟩
  exact dx_isTarget1 hi (br_f (by decide) (dx_isP1 P8 hj (br_f (by decide) (br_c (fun _ => fin) (fun _ => dp_isPS (fun r => br_c (fun _ => q _ _ K) (fun _ => fin)))))))
theorem dp_clear {post : St2 → Prop} {P L : Nat} {S : Nat → Int32} {u : St2} (h : dp_X P L S u) (q : ∀ u', dp_X P 0 S u' → post u') : wpX_clearProgram post u := by
  obtain ⟨xP, xC, xA, xL, xO, xQ, xS, xK, dA, aA, po, st, jm, pl, op, el, so, ip, va, ov, oc⟩ := u
  obtain ⟨rfl, rfl, rfl, rfl, rfl, ⟨P2, P8⟩, hL, hT⟩ := h
  unfold wpX_clearProgram
  exact dx_reset (q _ ⟨rfl, rfl, rfl, rfl, rfl, ⟨P2, P8⟩, by omega, fun x hx => absurd hx (by omega), fun i hi => absurd hi (by omega)⟩)
theorem dp_len {post : Int32 → Prop} {P L : Nat} {S : Nat → Int32} {u : St2} (h : dp_X P L S u) (q : post (nI L)) : wpX_getValue post u 33 := by
  obtain ⟨xP, xC, xA, xL, xO, xQ, xS, xK, dA, aA, po, st, jm, pl, op, el, so, ip, va, ov, oc⟩ := u
  obtain ⟨rfl, rfl, rfl, rfl, rfl, ⟨P2, P8⟩, hL, hT⟩ := h
  unfold wpX_getValue
  refine dx_isVariable0 (Or.inr ⟨by decide, by decide⟩) (br_t rfl (br_f (by decide) (br_t (by decide) ?_)))
  unfold wX_getValue_36
  exact br_f (by decide) (br_f (by decide) (br_f (by decide) (br_t rfl q)))
theorem dp_get {post : Int32 → Prop} {P L : Nat} {S : Nat → Int32} {u : St2} {j f : Nat} (h : dp_X P L S u) (hj : j < L) (hf : f < 4) (q : post (S (j * 4 + f))) : wpX_getStmt post u (nI j) (nI f) := by
  obtain ⟨xP, xC, xA, xL, xO, xQ, xS, xK, dA, aA, po, st, jm, pl, op, el, so, ip, va, ov, oc⟩ := u
  obtain ⟨rfl, rfl, rfl, rfl, rfl, ⟨P2, P8⟩, hL, hT⟩ := h
  unfold wpX_getStmt
  refine br_f (nI_pos (by omega)) (br_f (nI_ge hj (by omega)) (br_f (nI_pos (by omega)) (br_t (nI_lt (b := 4) hf (by omega)) ?_)))
  rw [dl_m4, nI_add, dl_c (show j * 4 + f < 2 ^ 31 by omega), hT.1 (j * 4 + f) (by omega)]
  exact ⟨vp_in_nI (by omega) (by omega), q⟩
theorem dx_add0 {post : Int32 → St2 → Prop} {L : Nat} {k a b c : Int32} (hL : L < 64) (h : post (nI L) (xP, xC, xA, nI (L + 1), xO, 0, 0, -1, dA, aA, po, dl_w st L k 0 0 0, jm, pl, op, el, so, ip, va, ov, dl_zn oc 4)) : ∀ x6 : Int32, x6 = nI L * 4 → (vp_in x6 256 ∧ ∀ s7 : Nat → Int32, s7 = upd st x6.toNatClampNeg k → (((0 : Int32) < 1 → wX_addStmt_65 post b c 0 x6 0 (x6 + 1) xP xC xA (nI L) xO xQ xS xK dA aA po s7 jm pl op el so ip va ov oc) ∧ (¬ (0 : Int32) < 1 → wX_addStmt_65 post b c 0 x6 a (x6 + 1) xP xC xA (nI L) xO xQ xS xK dA aA po s7 jm pl op el so ip va ov oc))) := by
  obtain ⟨v0, c0⟩ := dl_s0 hL
  obtain ⟨v1, c1⟩ := dl_s1 hL
  obtain ⟨v2, c2⟩ := dl_s2 hL
  obtain ⟨v3, c3⟩ := dl_s3 hL
  refine nm_r (dl_m4 L) ⟨v0, nm_r (e' := upd st (L * 4) k) (by rw [c0]) (br_t (by decide) ?_)⟩
  unfold wX_addStmt_65
  refine ⟨v1, nm_r (e' := upd (upd st (L * 4) k) (L * 4 + 1) 0) (by rw [c1]) (br_t (by decide) ?_)⟩
  unfold wX_addStmt_85
  refine ⟨v2, nm_r (e' := upd (upd (upd st (L * 4) k) (L * 4 + 1) 0) (L * 4 + 2) 0) (by rw [c2]) (br_t (by decide) ?_)⟩
  unfold wX_addStmt_106
  refine ⟨v3, nm_r (e' := dl_w st L k 0 0 0) (by rw [c3]; rfl) (nm_r (nI_1 L) (dx_reset ?_))⟩
  show post (nI (L + 1) - 1) _
  rw [nI_pred]
  exact h
theorem dx_add1 {post : Int32 → St2 → Prop} {L : Nat} {k a b c : Int32} (hL : L < 64) (h : post (nI L) (xP, xC, xA, nI (L + 1), xO, 0, 0, -1, dA, aA, po, dl_w st L k a 0 0, jm, pl, op, el, so, ip, va, ov, dl_zn oc 4)) : ∀ x6 : Int32, x6 = nI L * 4 → (vp_in x6 256 ∧ ∀ s7 : Nat → Int32, s7 = upd st x6.toNatClampNeg k → (((1 : Int32) < 1 → wX_addStmt_65 post b c 1 x6 0 (x6 + 1) xP xC xA (nI L) xO xQ xS xK dA aA po s7 jm pl op el so ip va ov oc) ∧ (¬ (1 : Int32) < 1 → wX_addStmt_65 post b c 1 x6 a (x6 + 1) xP xC xA (nI L) xO xQ xS xK dA aA po s7 jm pl op el so ip va ov oc))) := by
  obtain ⟨v0, c0⟩ := dl_s0 hL
  obtain ⟨v1, c1⟩ := dl_s1 hL
  obtain ⟨v2, c2⟩ := dl_s2 hL
  obtain ⟨v3, c3⟩ := dl_s3 hL
  refine nm_r (dl_m4 L) ⟨v0, nm_r (e' := upd st (L * 4) k) (by rw [c0]) (br_f (by decide) ?_)⟩
  unfold wX_addStmt_65
  refine ⟨v1, nm_r (e' := upd (upd st (L * 4) k) (L * 4 + 1) a) (by rw [c1]) (br_t (by decide) ?_)⟩
  unfold wX_addStmt_85
  refine ⟨v2, nm_r (e' := upd (upd (upd st (L * 4) k) (L * 4 + 1) a) (L * 4 + 2) 0) (by rw [c2]) (br_t (by decide) ?_)⟩
  unfold wX_addStmt_106
  refine ⟨v3, nm_r (e' := dl_w st L k a 0 0) (by rw [c3]; rfl) (nm_r (nI_1 L) (dx_reset ?_))⟩
  show post (nI (L + 1) - 1) _
  rw [nI_pred]
  exact h
theorem dx_add2 {post : Int32 → St2 → Prop} {L : Nat} {k a b c : Int32} (hL : L < 64) (h : post (nI L) (xP, xC, xA, nI (L + 1), xO, 0, 0, -1, dA, aA, po, dl_w st L k a b 0, jm, pl, op, el, so, ip, va, ov, dl_zn oc 4)) : ∀ x6 : Int32, x6 = nI L * 4 → (vp_in x6 256 ∧ ∀ s7 : Nat → Int32, s7 = upd st x6.toNatClampNeg k → (((2 : Int32) < 1 → wX_addStmt_65 post b c 2 x6 0 (x6 + 1) xP xC xA (nI L) xO xQ xS xK dA aA po s7 jm pl op el so ip va ov oc) ∧ (¬ (2 : Int32) < 1 → wX_addStmt_65 post b c 2 x6 a (x6 + 1) xP xC xA (nI L) xO xQ xS xK dA aA po s7 jm pl op el so ip va ov oc))) := by
  obtain ⟨v0, c0⟩ := dl_s0 hL
  obtain ⟨v1, c1⟩ := dl_s1 hL
  obtain ⟨v2, c2⟩ := dl_s2 hL
  obtain ⟨v3, c3⟩ := dl_s3 hL
  refine nm_r (dl_m4 L) ⟨v0, nm_r (e' := upd st (L * 4) k) (by rw [c0]) (br_f (by decide) ?_)⟩
  unfold wX_addStmt_65
  refine ⟨v1, nm_r (e' := upd (upd st (L * 4) k) (L * 4 + 1) a) (by rw [c1]) (br_f (by decide) ?_)⟩
  unfold wX_addStmt_85
  refine ⟨v2, nm_r (e' := upd (upd (upd st (L * 4) k) (L * 4 + 1) a) (L * 4 + 2) b) (by rw [c2]) (br_t (by decide) ?_)⟩
  unfold wX_addStmt_106
  refine ⟨v3, nm_r (e' := dl_w st L k a b 0) (by rw [c3]; rfl) (nm_r (nI_1 L) (dx_reset ?_))⟩
  show post (nI (L + 1) - 1) _
  rw [nI_pred]
  exact h
theorem dx_add3 {post : Int32 → St2 → Prop} {L : Nat} {k a b c : Int32} (hL : L < 64) (h : post (nI L) (xP, xC, xA, nI (L + 1), xO, 0, 0, -1, dA, aA, po, dl_w st L k a b c, jm, pl, op, el, so, ip, va, ov, dl_zn oc 4)) : ∀ x6 : Int32, x6 = nI L * 4 → (vp_in x6 256 ∧ ∀ s7 : Nat → Int32, s7 = upd st x6.toNatClampNeg k → (((3 : Int32) < 1 → wX_addStmt_65 post b c 3 x6 0 (x6 + 1) xP xC xA (nI L) xO xQ xS xK dA aA po s7 jm pl op el so ip va ov oc) ∧ (¬ (3 : Int32) < 1 → wX_addStmt_65 post b c 3 x6 a (x6 + 1) xP xC xA (nI L) xO xQ xS xK dA aA po s7 jm pl op el so ip va ov oc))) := by
  obtain ⟨v0, c0⟩ := dl_s0 hL
  obtain ⟨v1, c1⟩ := dl_s1 hL
  obtain ⟨v2, c2⟩ := dl_s2 hL
  obtain ⟨v3, c3⟩ := dl_s3 hL
  refine nm_r (dl_m4 L) ⟨v0, nm_r (e' := upd st (L * 4) k) (by rw [c0]) (br_f (by decide) ?_)⟩
  unfold wX_addStmt_65
  refine ⟨v1, nm_r (e' := upd (upd st (L * 4) k) (L * 4 + 1) a) (by rw [c1]) (br_f (by decide) ?_)⟩
  unfold wX_addStmt_85
  refine ⟨v2, nm_r (e' := upd (upd (upd st (L * 4) k) (L * 4 + 1) a) (L * 4 + 2) b) (by rw [c2]) (br_f (by decide) ?_)⟩
  unfold wX_addStmt_106
  refine ⟨v3, nm_r (e' := dl_w st L k a b c) (by rw [c3]; rfl) (nm_r (nI_1 L) (dx_reset ?_))⟩
  show post (nI (L + 1) - 1) _
  rw [nI_pred]
  exact h
theorem dp_a1 {post : Int32 → St2 → Prop} {L : Nat} {a b c : Int32} (hL : L < 64) (va' : dl_v a) (q : post (nI L) (xP, 64, xA, nI (L + 1), xO, 0, 0, -1, dA, aA, po, dl_w st L 1 a b 0, jm, pl, op, el, so, ip, va, ov, dl_zn oc 4)) : wpX_addStmt post (xP, 64, xA, nI L, xO, xQ, xS, xK, dA, aA, po, st, jm, pl, op, el, so, ip, va, ov, oc) 1 a b c := by
  obtain ⟨t, h1, rfl⟩ := va'
  have nf : ¬ (64 : Int32) ≤ nI L := nI_ge (b := 64) hL (by omega)
  unfold wpX_addStmt
  refine br_f nf ?_
  unfold wpX_operandsFit
  refine br_f (by decide) (br_f (by decide) (br_t rfl (dx_isVariable1 h1 ⟨rfl, br_f (by decide) (?_)⟩)))
  unfold wpX_operandCount
  exact br_f (by decide) (br_f (by decide) (br_t rfl (dx_add2 hL q)))
theorem dp_a2 {post : Int32 → St2 → Prop} {L : Nat} {a b c : Int32} (hL : L < 64) (va' : dl_v a) (vb' : dl_v b) (q : post (nI L) (xP, 64, xA, nI (L + 1), xO, 0, 0, -1, dA, aA, po, dl_w st L 2 a b 0, jm, pl, op, el, so, ip, va, ov, dl_zn oc 4)) : wpX_addStmt post (xP, 64, xA, nI L, xO, xQ, xS, xK, dA, aA, po, st, jm, pl, op, el, so, ip, va, ov, oc) 2 a b c := by
  obtain ⟨t, h1, rfl⟩ := va'
  obtain ⟨s, h2, rfl⟩ := vb'
  have nf : ¬ (64 : Int32) ≤ nI L := nI_ge (b := 64) hL (by omega)
  unfold wpX_addStmt
  refine br_f nf ?_
  unfold wpX_operandsFit
  refine br_f (by decide) (br_f (by decide) (br_f (by decide) (br_t rfl (dx_isVariable1 h1 (br_f (by decide) (dx_isVariable1 h2 (br_f (by decide) (br_f (by decide) (?_)))))))))
  unfold wpX_operandCount
  exact br_f (by decide) (br_f (by decide) (br_f (by decide) (br_t rfl (dx_add2 hL q))))
theorem dp_a3 {post : Int32 → St2 → Prop} {L : Nat} {a b c : Int32} (hL : L < 64) (va' : dl_v a) (vb' : dl_v b) (vc' : dl_v c) (q : post (nI L) (xP, 64, xA, nI (L + 1), xO, 0, 0, -1, dA, aA, po, dl_w st L 3 a b c, jm, pl, op, el, so, ip, va, ov, dl_zn oc 4)) : wpX_addStmt post (xP, 64, xA, nI L, xO, xQ, xS, xK, dA, aA, po, st, jm, pl, op, el, so, ip, va, ov, oc) 3 a b c := by
  obtain ⟨t, h1, rfl⟩ := va'
  obtain ⟨s, h2, rfl⟩ := vb'
  obtain ⟨m, h3, rfl⟩ := vc'
  have nf : ¬ (64 : Int32) ≤ nI L := nI_ge (b := 64) hL (by omega)
  unfold wpX_addStmt
  refine br_f nf ?_
  unfold wpX_operandsFit
  refine br_f (by decide) (br_f (by decide) (br_f (by decide) (br_f (by decide) (br_t rfl (dx_isVariable1 h1 (br_f (by decide) (dx_isVariable1 h2 (br_f (by decide) (dx_isVariable1 h3 (br_f (by decide) (br_f (by decide) (?_))))))))))))
  unfold wpX_operandCount
  exact br_f (by decide) (br_f (by decide) (br_f (by decide) (br_f (by decide) (br_t rfl (dx_add3 hL q)))))
theorem dp_a4 {post : Int32 → St2 → Prop} {L : Nat} {a b c : Int32} (hL : L < 64) (va' : dl_v a) (vb' : dl_v b) (vc' : dl_v c) (q : post (nI L) (xP, 64, xA, nI (L + 1), xO, 0, 0, -1, dA, aA, po, dl_w st L 4 a b c, jm, pl, op, el, so, ip, va, ov, dl_zn oc 4)) : wpX_addStmt post (xP, 64, xA, nI L, xO, xQ, xS, xK, dA, aA, po, st, jm, pl, op, el, so, ip, va, ov, oc) 4 a b c := by
  obtain ⟨t, h1, rfl⟩ := va'
  obtain ⟨s, h2, rfl⟩ := vb'
  obtain ⟨m, h3, rfl⟩ := vc'
  have nf : ¬ (64 : Int32) ≤ nI L := nI_ge (b := 64) hL (by omega)
  unfold wpX_addStmt
  refine br_f nf ?_
  unfold wpX_operandsFit
  refine br_f (by decide) (br_f (by decide) (br_f (by decide) (br_f (by decide) (br_f (by decide) (br_t rfl (dx_isVariable1 h1 (br_f (by decide) (dx_isVariable1 h2 (br_f (by decide) (dx_isVariable1 h3 (br_f (by decide) (br_f (by decide) (?_)))))))))))))
  unfold wpX_operandCount
  exact br_f (by decide) (br_f (by decide) (br_f (by decide) (br_f (by decide) (br_f (by decide) (br_t rfl (dx_add3 hL q))))))
theorem dp_a5 {post : Int32 → St2 → Prop} {L : Nat} {a b c : Int32} (hL : L < 64) (va' : dl_v a) (vb' : dl_v b) (vc' : dl_v c) (q : post (nI L) (xP, 64, xA, nI (L + 1), xO, 0, 0, -1, dA, aA, po, dl_w st L 5 a b c, jm, pl, op, el, so, ip, va, ov, dl_zn oc 4)) : wpX_addStmt post (xP, 64, xA, nI L, xO, xQ, xS, xK, dA, aA, po, st, jm, pl, op, el, so, ip, va, ov, oc) 5 a b c := by
  obtain ⟨t, h1, rfl⟩ := va'
  obtain ⟨s, h2, rfl⟩ := vb'
  obtain ⟨m, h3, rfl⟩ := vc'
  have nf : ¬ (64 : Int32) ≤ nI L := nI_ge (b := 64) hL (by omega)
  unfold wpX_addStmt
  refine br_f nf ?_
  unfold wpX_operandsFit
  refine br_f (by decide) (br_f (by decide) (br_f (by decide) (br_f (by decide) (br_f (by decide) (br_f (by decide) (br_t rfl (dx_isVariable1 h1 (br_f (by decide) (dx_isVariable1 h2 (br_f (by decide) (dx_isVariable1 h3 (br_f (by decide) (br_f (by decide) (?_))))))))))))))
  unfold wpX_operandCount
  exact br_f (by decide) (br_f (by decide) (br_f (by decide) (br_f (by decide) (br_f (by decide) (br_f (by decide) (br_t rfl (dx_add3 hL q)))))))
theorem dp_a6 {post : Int32 → St2 → Prop} {L : Nat} {a b c : Int32} (hL : L < 64) (va' : dl_v a) (vb' : dl_v b) (vc' : dl_v c) (q : post (nI L) (xP, 64, xA, nI (L + 1), xO, 0, 0, -1, dA, aA, po, dl_w st L 6 a b c, jm, pl, op, el, so, ip, va, ov, dl_zn oc 4)) : wpX_addStmt post (xP, 64, xA, nI L, xO, xQ, xS, xK, dA, aA, po, st, jm, pl, op, el, so, ip, va, ov, oc) 6 a b c := by
  obtain ⟨t, h1, rfl⟩ := va'
  obtain ⟨s, h2, rfl⟩ := vb'
  obtain ⟨m, h3, rfl⟩ := vc'
  have nf : ¬ (64 : Int32) ≤ nI L := nI_ge (b := 64) hL (by omega)
  unfold wpX_addStmt
  refine br_f nf ?_
  unfold wpX_operandsFit
  refine br_f (by decide) (br_f (by decide) (br_f (by decide) (br_f (by decide) (br_f (by decide) (br_f (by decide) (br_f (by decide) (br_t rfl (dx_isVariable1 h1 (br_f (by decide) (dx_isVariable1 h2 (br_f (by decide) (dx_isVariable1 h3 (br_f (by decide) (br_f (by decide) (?_)))))))))))))))
  unfold wpX_operandCount
  exact br_f (by decide) (br_f (by decide) (br_f (by decide) (br_f (by decide) (br_f (by decide) (br_f (by decide) (br_f (by decide) (br_t rfl (dx_add3 hL q))))))))
theorem dp_a7 {post : Int32 → St2 → Prop} {L : Nat} {a b c : Int32} (hL : L < 64) (va' : dl_v a) (vb' : dl_v b) (vc' : dl_v c) (q : post (nI L) (xP, 64, xA, nI (L + 1), xO, 0, 0, -1, dA, aA, po, dl_w st L 7 a b c, jm, pl, op, el, so, ip, va, ov, dl_zn oc 4)) : wpX_addStmt post (xP, 64, xA, nI L, xO, xQ, xS, xK, dA, aA, po, st, jm, pl, op, el, so, ip, va, ov, oc) 7 a b c := by
  obtain ⟨t, h1, rfl⟩ := va'
  obtain ⟨s, h2, rfl⟩ := vb'
  obtain ⟨m, h3, rfl⟩ := vc'
  have nf : ¬ (64 : Int32) ≤ nI L := nI_ge (b := 64) hL (by omega)
  unfold wpX_addStmt
  refine br_f nf ?_
  unfold wpX_operandsFit
  refine br_f (by decide) (br_f (by decide) (br_f (by decide) (br_f (by decide) (br_f (by decide) (br_f (by decide) (br_f (by decide) (br_f (by decide) (br_t rfl (dx_isVariable1 h1 (br_f (by decide) (dx_isVariable1 h2 (br_f (by decide) (dx_isVariable1 h3 (br_f (by decide) (br_f (by decide) (?_))))))))))))))))
  unfold wpX_operandCount
  exact br_f (by decide) (br_f (by decide) (br_f (by decide) (br_f (by decide) (br_f (by decide) (br_f (by decide) (br_f (by decide) (br_f (by decide) (br_t rfl (dx_add3 hL q)))))))))
theorem dp_a8 {post : Int32 → St2 → Prop} {L : Nat} {a b c : Int32} (hL : L < 64) (va' : dl_v a) (q : post (nI L) (xP, 64, xA, nI (L + 1), xO, 0, 0, -1, dA, aA, po, dl_w st L 8 a 0 0, jm, pl, op, el, so, ip, va, ov, dl_zn oc 4)) : wpX_addStmt post (xP, 64, xA, nI L, xO, xQ, xS, xK, dA, aA, po, st, jm, pl, op, el, so, ip, va, ov, oc) 8 a b c := by
  obtain ⟨t, h1, rfl⟩ := va'
  have nf : ¬ (64 : Int32) ≤ nI L := nI_ge (b := 64) hL (by omega)
  unfold wpX_addStmt
  refine br_f nf ?_
  unfold wpX_operandsFit
  refine br_f (by decide) (br_f (by decide) (br_f (by decide) (br_f (by decide) (br_f (by decide) (br_f (by decide) (br_f (by decide) (br_f (by decide) (br_f (by decide) (br_t rfl (dx_isVariable1 h1 ⟨rfl, br_f (by decide) (?_)⟩))))))))))
  unfold wpX_operandCount
  exact br_f (by decide) (br_f (by decide) (br_f (by decide) (br_f (by decide) (br_f (by decide) (br_f (by decide) (br_f (by decide) (br_f (by decide) (br_f (by decide) (br_t rfl (dx_add1 hL q))))))))))
theorem dp_a9 {post : Int32 → St2 → Prop} {L : Nat} {a b c : Int32} (hL : L < 64) (q : post (nI L) (xP, 64, xA, nI (L + 1), xO, 0, 0, -1, dA, aA, po, dl_w st L 9 0 0 0, jm, pl, op, el, so, ip, va, ov, dl_zn oc 4)) : wpX_addStmt post (xP, 64, xA, nI L, xO, xQ, xS, xK, dA, aA, po, st, jm, pl, op, el, so, ip, va, ov, oc) 9 a b c := by
  have nf : ¬ (64 : Int32) ≤ nI L := nI_ge (b := 64) hL (by omega)
  unfold wpX_addStmt
  refine br_f nf ?_
  unfold wpX_operandsFit
  refine br_f (by decide) (br_f (by decide) (br_f (by decide) (br_f (by decide) (br_f (by decide) (br_f (by decide) (br_f (by decide) (br_f (by decide) (br_f (by decide) (br_f (by decide) (br_t rfl (br_f (by decide) (?_))))))))))))
  unfold wpX_operandCount
  exact br_f (by decide) (br_f (by decide) (br_f (by decide) (br_f (by decide) (br_f (by decide) (br_f (by decide) (br_f (by decide) (br_f (by decide) (br_f (by decide) (br_f (by decide) (br_t rfl (dx_add0 hL q)))))))))))
theorem dp_a10 {post : Int32 → St2 → Prop} {L : Nat} {a b c : Int32} (hL : L < 64) (q : post (nI L) (xP, 64, xA, nI (L + 1), xO, 0, 0, -1, dA, aA, po, dl_w st L 10 0 0 0, jm, pl, op, el, so, ip, va, ov, dl_zn oc 4)) : wpX_addStmt post (xP, 64, xA, nI L, xO, xQ, xS, xK, dA, aA, po, st, jm, pl, op, el, so, ip, va, ov, oc) 10 a b c := by
  have nf : ¬ (64 : Int32) ≤ nI L := nI_ge (b := 64) hL (by omega)
  unfold wpX_addStmt
  refine br_f nf ?_
  unfold wpX_operandsFit
  refine br_f (by decide) (br_f (by decide) (br_f (by decide) (br_f (by decide) (br_f (by decide) (br_f (by decide) (br_f (by decide) (br_f (by decide) (br_f (by decide) (br_f (by decide) (br_f (by decide) (br_t rfl (br_f (by decide) (?_)))))))))))))
  unfold wpX_operandCount
  exact br_f (by decide) (br_f (by decide) (br_f (by decide) (br_f (by decide) (br_f (by decide) (br_f (by decide) (br_f (by decide) (br_f (by decide) (br_f (by decide) (br_f (by decide) (br_f (by decide) (br_t rfl (dx_add0 hL q))))))))))))
theorem dp_a11 {post : Int32 → St2 → Prop} {L : Nat} {a b c : Int32} (hL : L < 64) (va' : dl_v a) (q : post (nI L) (xP, 64, xA, nI (L + 1), xO, 0, 0, -1, dA, aA, po, dl_w st L 11 a 0 0, jm, pl, op, el, so, ip, va, ov, dl_zn oc 4)) : wpX_addStmt post (xP, 64, xA, nI L, xO, xQ, xS, xK, dA, aA, po, st, jm, pl, op, el, so, ip, va, ov, oc) 11 a b c := by
  obtain ⟨t, h1, rfl⟩ := va'
  have nf : ¬ (64 : Int32) ≤ nI L := nI_ge (b := 64) hL (by omega)
  unfold wpX_addStmt
  refine br_f nf ?_
  unfold wpX_operandsFit
  refine br_f (by decide) (br_f (by decide) (br_f (by decide) (br_f (by decide) (br_f (by decide) (br_f (by decide) (br_f (by decide) (br_f (by decide) (br_f (by decide) (br_f (by decide) (br_f (by decide) (br_f (by decide) (br_t rfl (dx_isVariable1 h1 ⟨rfl, br_f (by decide) (?_)⟩)))))))))))))
  unfold wpX_operandCount
  exact br_f (by decide) (br_f (by decide) (br_f (by decide) (br_f (by decide) (br_f (by decide) (br_f (by decide) (br_f (by decide) (br_f (by decide) (br_f (by decide) (br_f (by decide) (br_f (by decide) (br_f (by decide) (br_t rfl (dx_add1 hL q)))))))))))))
theorem dp_a12 {post : Int32 → St2 → Prop} {L : Nat} {a b c : Int32} (hL : L < 64) (va' : dl_hc a) (vb' : dl_v b) (q : post (nI L) (xP, 64, xA, nI (L + 1), xO, 0, 0, -1, dA, aA, po, dl_w st L 12 a b 0, jm, pl, op, el, so, ip, va, ov, dl_zn oc 4)) : wpX_addStmt post (xP, 64, xA, nI L, xO, xQ, xS, xK, dA, aA, po, st, jm, pl, op, el, so, ip, va, ov, oc) 12 a b c := by
  obtain ⟨t, h1, rfl⟩ := va'
  obtain ⟨s, h2, rfl⟩ := vb'
  have nf : ¬ (64 : Int32) ≤ nI L := nI_ge (b := 64) hL (by omega)
  unfold wpX_addStmt
  refine br_f nf ?_
  unfold wpX_operandsFit
  refine br_f (by decide) (br_f (by decide) (br_f (by decide) (br_f (by decide) (br_f (by decide) (br_f (by decide) (br_f (by decide) (br_f (by decide) (br_f (by decide) (br_f (by decide) (br_f (by decide) (br_f (by decide) (br_f (by decide) (br_t rfl (dx_isChannel1 h1 (br_f (by decide) (dx_isVariable1 h2 (br_f (by decide) (br_f (by decide) (?_)))))))))))))))))))
  unfold wpX_operandCount
  exact br_f (by decide) (br_f (by decide) (br_f (by decide) (br_f (by decide) (br_f (by decide) (br_f (by decide) (br_f (by decide) (br_f (by decide) (br_f (by decide) (br_f (by decide) (br_f (by decide) (br_f (by decide) (br_f (by decide) (br_t rfl (dx_add2 hL q))))))))))))))
theorem dp_a13 {post : Int32 → St2 → Prop} {L : Nat} {a b c : Int32} (hL : L < 64) (va' : dl_v a) (vb' : dl_v b) (q : post (nI L) (xP, 64, xA, nI (L + 1), xO, 0, 0, -1, dA, aA, po, dl_w st L 13 a b 0, jm, pl, op, el, so, ip, va, ov, dl_zn oc 4)) : wpX_addStmt post (xP, 64, xA, nI L, xO, xQ, xS, xK, dA, aA, po, st, jm, pl, op, el, so, ip, va, ov, oc) 13 a b c := by
  obtain ⟨t, h1, rfl⟩ := va'
  obtain ⟨s, h2, rfl⟩ := vb'
  have nf : ¬ (64 : Int32) ≤ nI L := nI_ge (b := 64) hL (by omega)
  unfold wpX_addStmt
  refine br_f nf ?_
  unfold wpX_operandsFit
  refine br_f (by decide) (br_f (by decide) (br_f (by decide) (br_f (by decide) (br_f (by decide) (br_f (by decide) (br_f (by decide) (br_f (by decide) (br_f (by decide) (br_f (by decide) (br_f (by decide) (br_f (by decide) (br_f (by decide) (br_f (by decide) (br_t rfl (dx_isVariable1 h1 (br_f (by decide) (dx_isVariable1 h2 (br_f (by decide) (br_f (by decide) (?_))))))))))))))))))))
  unfold wpX_operandCount
  exact br_f (by decide) (br_f (by decide) (br_f (by decide) (br_f (by decide) (br_f (by decide) (br_f (by decide) (br_f (by decide) (br_f (by decide) (br_f (by decide) (br_f (by decide) (br_f (by decide) (br_f (by decide) (br_f (by decide) (br_f (by decide) (br_t rfl (dx_add2 hL q)))))))))))))))
theorem dp_add {post : Int32 → St2 → Prop} {P L : Nat} {S : Nat → Int32} {u : St2} {k a b c : Int32} (h : dp_X P L S u) (hl : L < 64) (ok : dl_ok k a b c) (q : ∀ u', dp_X P (L + 1) (dl_w S L k (dp_na k a) (dp_nb k b) (dp_nc k c)) u' → post (nI L) u') : wpX_addStmt post u k a b c := by
  obtain ⟨xP, xC, xA, xL, xO, xQ, xS, xK, dA, aA, po, st, jm, pl, op, el, so, ip, va, ov, oc⟩ := u
  obtain ⟨rfl, rfl, rfl, rfl, rfl, ⟨P2, P8⟩, hL, hT⟩ := h
  have K : ∀ (xQ xS xK : Int32) (oc : Nat → Int32), dp_X P (L + 1) (dl_w S L k (dp_na k a) (dp_nb k b) (dp_nc k c)) (nI P, 64, 0, nI (L + 1), xO, xQ, xS, xK, dA, aA, po, dl_w st L k (dp_na k a) (dp_nb k b) (dp_nc k c), jm, pl, op, el, so, (fun _ => 0), va, ov, oc) := fun _ _ _ _ => ⟨rfl, rfl, rfl, rfl, rfl, ⟨P2, P8⟩, by omega, dp_T_w hT (dp_okn ok)⟩
  rcases ok with ⟨rfl, h1⟩ | ⟨rfl, h1, h2⟩ | ⟨rfl, h1, h2⟩ | ⟨rfl | rfl | rfl | rfl | rfl, h1, h2, h3⟩ | ⟨rfl | rfl, h1⟩ | (rfl | rfl) | ⟨rfl, h1, h2⟩
  · rw [dp_na1, dp_nb1, dp_nc1] at K q
    exact dp_a1 hl h1 (q _ (K 0 0 (-1) (dl_zn oc 4)))
  · rw [dp_na2, dp_nb2, dp_nc2] at K q
    exact dp_a2 hl h1 h2 (q _ (K 0 0 (-1) (dl_zn oc 4)))
  · rw [dp_na13, dp_nb13, dp_nc13] at K q
    exact dp_a13 hl h1 h2 (q _ (K 0 0 (-1) (dl_zn oc 4)))
  · rw [dp_na3, dp_nb3, dp_nc3] at K q
    exact dp_a3 hl h1 h2 h3 (q _ (K 0 0 (-1) (dl_zn oc 4)))
  · rw [dp_na4, dp_nb4, dp_nc4] at K q
    exact dp_a4 hl h1 h2 h3 (q _ (K 0 0 (-1) (dl_zn oc 4)))
  · rw [dp_na5, dp_nb5, dp_nc5] at K q
    exact dp_a5 hl h1 h2 h3 (q _ (K 0 0 (-1) (dl_zn oc 4)))
  · rw [dp_na6, dp_nb6, dp_nc6] at K q
    exact dp_a6 hl h1 h2 h3 (q _ (K 0 0 (-1) (dl_zn oc 4)))
  · rw [dp_na7, dp_nb7, dp_nc7] at K q
    exact dp_a7 hl h1 h2 h3 (q _ (K 0 0 (-1) (dl_zn oc 4)))
  · rw [dp_na8, dp_nb8, dp_nc8] at K q
    exact dp_a8 hl h1 (q _ (K 0 0 (-1) (dl_zn oc 4)))
  · rw [dp_na11, dp_nb11, dp_nc11] at K q
    exact dp_a11 hl h1 (q _ (K 0 0 (-1) (dl_zn oc 4)))
  · rw [dp_na9, dp_nb9, dp_nc9] at K q
    exact dp_a9 hl  (q _ (K 0 0 (-1) (dl_zn oc 4)))
  · rw [dp_na10, dp_nb10, dp_nc10] at K q
    exact dp_a10 hl  (q _ (K 0 0 (-1) (dl_zn oc 4)))
  · rw [dp_na12, dp_nb12, dp_nc12] at K q
    exact dp_a12 hl h1 h2 (q _ (K 0 0 (-1) (dl_zn oc 4)))
end
