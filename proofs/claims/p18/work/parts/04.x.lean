/-! the component's private methods, each with a general post -/
section
variable {xP xC xA xL xO xQ xS xK : Int32} {dA aA po st jm pl op el so ip va ov oc : Nat → Int32}
def dl_zn (f : Nat → Int32) : Nat → (Nat → Int32)
  | 0 => f
  | n + 1 => upd (dl_zn f n) n 0
/-- the first n cells by f, the others by g -/
def dl_row (f g : Nat → Int32) (n : Nat) : Nat → Int32 := fun x => if x < n then f x else g x
theorem dl_row_0 (f g : Nat → Int32) : dl_row f g 0 = g := by
  funext x
  exact if_neg (by omega)
theorem dl_row_s {f g : Nat → Int32} {n : Nat} {z : Int32} (h : z = f n) : upd (dl_row f g n) n z = dl_row f g (n + 1) := by
  funext x
  unfold upd dl_row
  by_cases e : x = n
  · subst e
    rw [if_pos rfl, if_pos (by omega), h]
  · rw [if_neg e]
    by_cases l : x < n
    · rw [if_pos l, if_pos (by omega)]
    · rw [if_neg l, if_neg (by omega)]
theorem dl_row_k {f g : Nat → Int32} {n : Nat} (h : g n = f n) : dl_row f g n = dl_row f g (n + 1) := by
  funext x
  unfold dl_row
  by_cases l : x < n
  · rw [if_pos l, if_pos (by omega)]
  · rw [if_neg l]
    by_cases e : x = n
    · subst e
      rw [if_pos (by omega), h]
    · rw [if_neg (by omega)]
theorem dl_row_n (f g : Nat → Int32) (n : Nat) : dl_row f g n n = g n := if_neg (by omega)
theorem dl_row_l {f g : Nat → Int32} {n x : Nat} (h : x < n) : dl_row f g n x = f x := if_pos h
theorem dl_m8 (a b : Nat) : nI a * 8 + nI b = nI (a * 8 + b) := by
  rw [← nI_add, ← pk_mul]
  rfl
theorem dl_m16 (a b : Nat) : nI a * 16 + nI b = nI (a * 16 + b) := by
  rw [← nI_add, ← pk_mul]
  rfl
theorem dl_m4 (a : Nat) : nI a * 4 = nI (a * 4) := by
  rw [← pk_mul]
  rfl
theorem dl_c {n : Nat} (h : n < 2 ^ 31) : (nI n).toNatClampNeg = n := nI_clamp h
theorem dx_contains {post : Int32 → Prop} {x : Int32} {p : Nat} (hp : p < 32) (h1 : bt x p = true → post 1) (h0 : bt x p = false → post 0) : wpX_contains post () x (nI p) := br_c (fun h => h0 ((dl_bz hp).mp h)) (fun h => h1 (dl_nt (fun w => h ((dl_bz hp).mpr w))))
theorem dx_empty {post : St2 → Prop} (h : post (xP, xC, xA, xL, xO, xQ, xS, xK, dA, aA, po, st, jm, pl, op, el, so, ip, va, ov, dl_zn oc 4)) : wpX_emptyChannels post (xP, xC, xA, xL, xO, xQ, xS, xK, dA, aA, po, st, jm, pl, op, el, so, ip, va, ov, oc) := by
  refine loop_0 (fun n i a => wX_emptyChannels_2 post xP xC xA xL xO xQ xS xK n (nI i) dA aA po st jm pl op el so ip va ov a) (fun i a => a = dl_zn oc i) 4 oc rfl ?_ ?_
  · intro n a ha
    subst ha
    exact br_t (nI_le (a := 4) (b := 4) (by omega) (by omega)) h
  · intro n i a hi ha ih
    subst ha
    refine br_f (nI_ge (b := 4) hi (by omega)) ⟨vp_in_nI hi (by omega), nm_r (e' := dl_zn oc (i + 1)) ?_ (nm_r (nI_1 i) (ih _ rfl))⟩
    rw [dl_c (by omega)]
    rfl
theorem dx_reset {post : St2 → Prop} (h : post (xP, xC, xA, xL, xO, 0, 0, -1, dA, aA, po, st, jm, pl, op, el, so, ip, va, ov, dl_zn oc 4)) : wpX_reset post (xP, xC, xA, xL, xO, xQ, xS, xK, dA, aA, po, st, jm, pl, op, el, so, ip, va, ov, oc) := by
  unfold wpX_reset
  exact dx_empty h
theorem dl_Wa {A0 a : Nat → Int32} {m i : Nat} (ha : ∀ x, a x = if x < i then dl_W A0 m x else A0 x) : a i = A0 i ∧ a m = A0 m := by
  refine ⟨by rw [ha i, if_neg (by omega)], ?_⟩
  rw [ha m]
  by_cases h : m < i
  · rw [if_pos h, dl_Wm]
  · rw [if_neg h]
theorem dx_c44 {post : St2 → Prop} {J : Int32 → (Nat → Int32) → (Nat → Int32) → (Nat → Int32) → (Nat → Int32) → (Nat → Int32) → (Nat → Int32) → (Nat → Int32) → (Nat → Int32) → (Nat → Int32) → (Nat → Int32) → (Nat → Int32) → (Nat → Int32) → (Nat → Int32) → Prop} {P m : Nat} (hP : P ≤ 8) (hm : m < P) (h : ∀ A', (∀ x, x < P → A' x = dl_W aA m x) → J (nI (m + 1)) dA A' po st jm pl op el so ip va ov oc) : ∃ n, wX_closeActors_44 post J (nI m) (nI P) xC xA xL xO xQ xS xK n 0 dA aA po st jm pl op el so ip va ov oc := by
  refine loop_0 (fun n i a => wX_closeActors_44 post J (nI m) (nI P) xC xA xL xO xQ xS xK n (nI i) dA a po st jm pl op el so ip va ov oc) (fun i a => ∀ x, a x = if x < i then dl_W aA m x else aA x) P aA ?_ ?_ ?_
  · intro x
    exact (if_neg (by omega)).symm
  · intro n a ha
    exact br_t (nI_le (Nat.le_refl _) (by omega)) (nm_r (nI_1 m) (h a (fun x hx => (ha x).trans (if_pos hx))))
  · intro n i a hi ha ih
    obtain ⟨e1, e2⟩ := dl_Wa ha
    have v : vp_in (nI i) 8 := vp_in_nI (by omega) (by omega)
    refine br_f (nI_ge hi (by omega)) ⟨v, ?_⟩
    rw [dl_c (show i < 2 ^ 31 by omega), dl_c (show m < 2 ^ 31 by omega), e1, e2]
    refine dx_contains (by omega) (fun hb => ?_) (fun hb => ?_)
    · refine br_f (by decide) ⟨v, vp_in_nI (by omega) (by omega), v, nm_e (nm_r (nI_1 i) (ih _ ?_))⟩
      intro x
      by_cases e : x = i
      · subst e
        rw [pk_us, if_pos (by omega)]
        exact (if_pos hb).symm
      · rw [pk_un e, ha x]
        by_cases l : x < i
        · rw [if_pos l, if_pos (by omega)]
        · rw [if_neg l, if_neg (by omega)]
    · refine br_t rfl (nm_r (nI_1 i) (ih _ ?_))
      intro x
      rw [ha x]
      by_cases e : x = i
      · subst e
        rw [if_neg (by omega), if_pos (by omega)]
        exact (if_neg (by rw [hb]; decide)).symm
      · by_cases l : x < i
        · rw [if_pos l, if_pos (by omega)]
        · rw [if_neg l, if_neg (by omega)]
theorem dx_c34 {post : St2 → Prop} {P : Nat} (hP : P ≤ 8) (h : ∀ A', dl_A P dA A' → post (nI P, xC, xA, xL, xO, xQ, xS, xK, dA, A', po, st, jm, pl, op, el, so, ip, va, ov, oc)) (V : dl_V P dA aA 0) : ∃ n, wX_closeActors_34 post (nI P) xC xA xL xO xQ xS xK n 0 dA aA po st jm pl op el so ip va ov oc := by
  refine loop_0 (fun n m a => wX_closeActors_34 post (nI P) xC xA xL xO xQ xS xK n (nI m) dA a po st jm pl op el so ip va ov oc) (fun m a => dl_V P dA a m) P aA V ?_ ?_
  · intro n a ha
    exact br_t (nI_le (Nat.le_refl _) (by omega)) (h a (dl_Vf ha))
  · intro n m a hm V ih
    exact br_f (nI_ge hm (by omega)) (dx_c44 hP hm (fun A' hA => ih A' (dl_Vs hm V hA)))
theorem dx_close {post : St2 → Prop} {P : Nat} (hP : P ≤ 8) (hD : ∀ p, p < P → ∀ q, bt (dA p) q = true → q < P) (h : ∀ A', dl_A P dA A' → post (nI P, xC, xA, xL, xO, xQ, xS, xK, dA, A', po, st, jm, pl, op, el, so, ip, va, ov, oc)) : wpX_closeActors post (nI P, xC, xA, xL, xO, xQ, xS, xK, dA, aA, po, st, jm, pl, op, el, so, ip, va, ov, oc) := by
  refine loop_0 (fun n i a => wX_closeActors_2 post (nI P) xC xA xL xO xQ xS xK n (nI i) dA a po st jm pl op el so ip va ov oc) (fun i a => ∀ x, x < i → a x = dA x ||| ((1 : Int32) <<< (nI x &&& 31))) P aA (fun x hx => absurd hx (by omega)) ?_ ?_
  · intro n a ha
    exact br_t (nI_le (Nat.le_refl _) (by omega)) (dx_c34 hP h (dl_V0 (by omega) hD ha))
  · intro n i a hi ha ih
    have v : vp_in (nI i) 8 := vp_in_nI (by omega) (by omega)
    refine br_f (nI_ge hi (by omega)) ⟨v, v, nm_e (nm_r (nI_1 i) (ih _ ?_))⟩
    rw [dl_c (show i < 2 ^ 31 by omega)]
    intro x hx
    by_cases e : x = i
    · subst e
      rw [pk_us]
    · rw [pk_un e]
      exact ha x (by omega)
theorem dx_eff {post : Int32 → Prop} {P o : Nat} {r : Int32} (hP : P ≤ 8) (ho : o < P) (h : post (dl_e aA o r P)) : wpX_effectiveReaders post (nI P, xC, xA, xL, xO, xQ, xS, xK, dA, aA, po, st, jm, pl, op, el, so, ip, va, ov, oc) (nI o) r := by
  unfold wpX_effectiveReaders
  refine ⟨vp_in_nI (by omega) (by omega), nm_r (e' := dl_e aA o r 0) (by rw [dl_c (by omega)]; rfl) ?_⟩
  refine loop_0 (fun n i s => wX_effectiveReaders_10 post r (nI P) xC xA xL xO xQ xS xK dA aA po st jm pl op el so ip va ov oc n s (nI i)) (fun i s => s = dl_e aA o r i) P _ rfl ?_ ?_
  · intro n s hs
    subst hs
    exact br_t (nI_le (Nat.le_refl _) (by omega)) h
  · intro n i s hi hs ih
    subst hs
    refine br_f (nI_ge hi (by omega)) (br_c (fun hb => ?_) (fun hb => ?_))
    · refine nm_r (nI_1 i) (ih _ ?_)
      exact (if_neg (by rw [(dl_bz (by omega)).mp hb]; decide)).symm
    · refine ⟨vp_in_nI (by omega) (by omega), nm_e (nm_r (nI_1 i) (ih _ ?_))⟩
      rw [dl_c (show i < 2 ^ 31 by omega)]
      exact (if_pos (dl_nt (fun w => hb ((dl_bz (by omega)).mpr w)))).symm
/-! reading and flowing: one pure meaning, for both sides -/
def dl_rd (P : Nat) (A po : Nat → Int32) (t p : Nat) : Prop := ∀ o, o < P → ¬ po (t * 8 + o) = -1 → bt (dl_e A o (po (t * 8 + o)) P) p = true
def dl_kp (P : Nat) (A po : Nat → Int32) (t o : Nat) (r : Int32) : Prop := ∃ k, k < P ∧ ¬ po (t * 8 + k) = -1 ∧ bt (A o) k = true ∧ (dl_e A k (po (t * 8 + k)) P &&& (dl_e A o r P ^^^ (-1))) = 0
def dl_fl (P : Nat) (A po so : Nat → Int32) (t : Nat) (d : Int32) : Prop := ∀ o, o < P → ¬ so o = -1 → (A o &&& d) = 0 → dl_kp P A po t o (so o)
theorem dx_rd {post : Int32 → Prop} {P t p : Nat} (hP : P ≤ 8) (ht : t < 20) (hp : p < P) (h1 : dl_rd P aA po t p → post 1) (h0 : ¬ dl_rd P aA po t p → post 0) : ∃ n, wX_canRead_19 post (nI p) (nI t) (nI P) xC xA xL xO xQ xS xK dA aA po st jm pl op el so ip va ov oc n 0 := by
  refine loop_0 (fun n i (_ : Unit) => wX_canRead_19 post (nI p) (nI t) (nI P) xC xA xL xO xQ xS xK dA aA po st jm pl op el so ip va ov oc n (nI i)) (fun i _ => ∀ o, o < i → ¬ po (t * 8 + o) = -1 → bt (dl_e aA o (po (t * 8 + o)) P) p = true) P () (fun o ho => absurd ho (by omega)) ?_ ?_
  · intro n _ ha
    exact br_t (nI_le (Nat.le_refl _) (by omega)) (h1 ha)
  · intro n i _ hi ha ih
    have nx : ∀ z : ¬ po (t * 8 + i) = -1 → bt (dl_e aA i (po (t * 8 + i)) P) p = true, ∀ o, o < i + 1 → ¬ po (t * 8 + o) = -1 → bt (dl_e aA o (po (t * 8 + o)) P) p = true := by
      intro z o ho
      by_cases e : o = i
      · subst e
        exact z
      · exact ha o (by omega)
    refine br_f (nI_ge hi (by omega)) ?_
    unfold wpX_cell
    rw [dl_m8]
    dsimp only
    rw [dl_c (show t * 8 + i < 2 ^ 31 by omega)]
    refine ⟨vp_in_nI (by omega) (by omega), nm_e (br_c (fun z => nm_r (nI_1 i) (ih () (nx (fun w => absurd z w)))) (fun z => dx_eff hP hi (dx_contains (by omega) (fun hb => br_f (by decide) (nm_r (nI_1 i) (ih () (nx (fun _ => hb))))) (fun hb => br_t rfl (h0 (fun w => ?_))))))⟩
    rw [w i hi z] at hb
    exact absurd hb (by decide)
theorem dx_keeps {post : Int32 → Prop} {P t o : Nat} {r : Int32} (hP : P ≤ 8) (ht : t < 20) (ho : o < P) (h1 : dl_kp P aA po t o r → post 1) (h0 : ¬ dl_kp P aA po t o r → post 0) : wpX_keepsPolicy post (nI P, xC, xA, xL, xO, xQ, xS, xK, dA, aA, po, st, jm, pl, op, el, so, ip, va, ov, oc) (nI t) (nI o) r := by
  unfold wpX_keepsPolicy
  refine dx_eff hP ho ?_
  refine loop_0 (fun n i (_ : Unit) => wX_keepsPolicy_11 post (nI t) (nI o) (dl_e aA o r P) (nI P) xC xA xL xO xQ xS xK dA aA po st jm pl op el so ip va ov oc n (nI i)) (fun i _ => ∀ k, k < i → ¬ (¬ po (t * 8 + k) = -1 ∧ bt (aA o) k = true ∧ (dl_e aA k (po (t * 8 + k)) P &&& (dl_e aA o r P ^^^ (-1))) = 0)) P () (fun o ho => absurd ho (by omega)) ?_ ?_
  · intro n _ ha
    exact br_t (nI_le (Nat.le_refl _) (by omega)) (h0 (fun ⟨k, hk, w⟩ => ha k hk w))
  · intro n i _ hi ha ih
    have nx : ¬ (¬ po (t * 8 + i) = -1 ∧ bt (aA o) i = true ∧ (dl_e aA i (po (t * 8 + i)) P &&& (dl_e aA o r P ^^^ (-1))) = 0) → wX_keepsPolicy_11 post (nI t) (nI o) (dl_e aA o r P) (nI P) xC xA xL xO xQ xS xK dA aA po st jm pl op el so ip va ov oc n (nI (i + 1)) := by
      intro z
      refine ih () (fun k hk => ?_)
      by_cases e : k = i
      · subst e
        exact z
      · exact ha k (by omega)
    refine br_f (nI_ge hi (by omega)) ?_
    unfold wpX_cell
    rw [dl_m8]
    dsimp only
    rw [dl_c (show t * 8 + i < 2 ^ 31 by omega), dl_c (show o < 2 ^ 31 by omega)]
    refine ⟨vp_in_nI (by omega) (by omega), nm_e (br_c (fun z => nm_r (nI_1 i) (nx (fun w => w.1 z))) (fun z => ⟨vp_in_nI (by omega) (by omega), dx_contains (by omega) (fun hb => br_f (by decide) (dx_eff hP hi (br_c (fun y => h1 ⟨i, hi, z, hb, y⟩) (fun y => nm_r (nI_1 i) (nx (fun w => y w.2.2)))))) (fun hb => br_t rfl (nm_r (nI_1 i) (nx (fun w => by rw [hb] at w; exact absurd w.2.1 (by decide)))))⟩))⟩
theorem dx_flows {post : Int32 → Prop} {P t : Nat} {d : Int32} (hP : P ≤ 8) (ht : t < 20) (h1 : dl_fl P aA po so t d → post 1) (h0 : ¬ dl_fl P aA po so t d → post 0) : wpX_flowsTo post (nI P, xC, xA, xL, xO, xQ, xS, xK, dA, aA, po, st, jm, pl, op, el, so, ip, va, ov, oc) (nI t) d := by
  refine loop_0 (fun n i (_ : Unit) => wX_flowsTo_2 post (nI t) d (nI P) xC xA xL xO xQ xS xK dA aA po st jm pl op el so ip va ov oc n (nI i)) (fun i _ => ∀ o, o < i → ¬ so o = -1 → (aA o &&& d) = 0 → dl_kp P aA po t o (so o)) P () (fun o ho => absurd ho (by omega)) ?_ ?_
  · intro n _ ha
    exact br_t (nI_le (Nat.le_refl _) (by omega)) (h1 ha)
  · intro n i _ hi ha ih
    have v : vp_in (nI i) 8 := vp_in_nI (by omega) (by omega)
    have nx : (¬ so i = -1 → (aA i &&& d) = 0 → dl_kp P aA po t i (so i)) → wX_flowsTo_2 post (nI t) d (nI P) xC xA xL xO xQ xS xK dA aA po st jm pl op el so ip va ov oc n (nI (i + 1)) := by
      intro z
      refine ih () (fun k hk => ?_)
      by_cases e : k = i
      · subst e
        exact z
      · exact ha k (by omega)
    have c := dl_c (show i < 2 ^ 31 by omega)
    refine br_f (nI_ge hi (by omega)) ⟨v, ?_⟩
    rw [c]
    refine br_c (fun z => ?_) (fun z => ⟨v, br_c (fun y => ?_) (fun y => ?_)⟩)
    · exact br_t rfl (nm_r (nI_1 i) (nx (fun w => absurd z w)))
    · refine br_f (by decide) ⟨v, ?_⟩
      rw [c]
      exact dx_keeps hP ht hi (fun k => br_f (by decide) (nm_r (nI_1 i) (nx (fun _ _ => k)))) (fun k => br_t rfl (h0 (fun w => k (w i hi z y))))
    · exact br_t rfl (nm_r (nI_1 i) (nx (fun _ w => absurd w y)))
/-! rows of labels -/
/-- the source row: the pc, the pc joined with a target, a target, the pc joined with two targets -/
def dl_S1 (pl so : Nat → Int32) (D : Nat) : Nat → Int32 := dl_row (fun o => pl (D * 8 + o)) so 8
def dl_St (po so : Nat → Int32) (t : Nat) : Nat → Int32 := dl_row (fun o => po (t * 8 + o)) so 8
def dl_Sj (po so : Nat → Int32) (t : Nat) : Nat → Int32 := dl_row (fun o => so o &&& po (t * 8 + o)) so 8
def dl_S2 (pl po so : Nat → Int32) (D t : Nat) : Nat → Int32 := dl_Sj po (dl_S1 pl so D) t
theorem dx_takePc {post : St2 → Prop} {D : Nat} (hD : D ≤ 8) (h : post (xP, xC, xA, xL, nI D, xQ, xS, xK, dA, aA, po, st, jm, pl, op, el, dl_S1 pl so D, ip, va, ov, oc)) : wpX_takePc post (xP, xC, xA, xL, nI D, xQ, xS, xK, dA, aA, po, st, jm, pl, op, el, so, ip, va, ov, oc) := by
  refine loop_0 (fun n i a => wX_takePc_2 post xP xC xA xL (nI D) xQ xS xK n (nI i) dA aA po st jm pl op el a ip va ov oc) (fun i a => a = dl_row (fun o => pl (D * 8 + o)) so i) 8 so (dl_row_0 _ _).symm ?_ ?_
  · intro n a ha
    subst ha
    exact br_t (nI_le (a := 8) (b := 8) (by omega) (by omega)) h
  · intro n i a hi ha ih
    subst ha
    refine br_f (nI_ge (b := 8) hi (by omega)) ?_
    unfold wpX_cell
    rw [dl_m8]
    dsimp only
    rw [dl_c (show D * 8 + i < 2 ^ 31 by omega), dl_c (show i < 2 ^ 31 by omega)]
    exact ⟨vp_in_nI (by omega) (by omega), vp_in_nI (by omega) (by omega), nm_e (nm_r (nI_1 i) (ih _ (dl_row_s rfl)))⟩
theorem dx_takeT {post : St2 → Prop} {t : Nat} (ht : t < 20) (h : post (xP, xC, xA, xL, xO, xQ, xS, xK, dA, aA, po, st, jm, pl, op, el, dl_St po so t, ip, va, ov, oc)) : wpX_takeTarget post (xP, xC, xA, xL, xO, xQ, xS, xK, dA, aA, po, st, jm, pl, op, el, so, ip, va, ov, oc) (nI t) := by
  refine loop_0 (fun n i a => wX_takeTarget_2 post (nI t) xP xC xA xL xO xQ xS xK n (nI i) dA aA po st jm pl op el a ip va ov oc) (fun i a => a = dl_row (fun o => po (t * 8 + o)) so i) 8 so (dl_row_0 _ _).symm ?_ ?_
  · intro n a ha
    subst ha
    exact br_t (nI_le (a := 8) (b := 8) (by omega) (by omega)) h
  · intro n i a hi ha ih
    subst ha
    refine br_f (nI_ge (b := 8) hi (by omega)) ?_
    unfold wpX_cell
    rw [dl_m8]
    dsimp only
    rw [dl_c (show t * 8 + i < 2 ^ 31 by omega), dl_c (show i < 2 ^ 31 by omega)]
    exact ⟨vp_in_nI (by omega) (by omega), vp_in_nI (by omega) (by omega), nm_e (nm_r (nI_1 i) (ih _ (dl_row_s rfl)))⟩
theorem dx_join {post : St2 → Prop} {t : Nat} (ht : t < 20) (h : post (xP, xC, xA, xL, xO, xQ, xS, xK, dA, aA, po, st, jm, pl, op, el, dl_Sj po so t, ip, va, ov, oc)) : wpX_joinTarget post (xP, xC, xA, xL, xO, xQ, xS, xK, dA, aA, po, st, jm, pl, op, el, so, ip, va, ov, oc) (nI t) := by
  refine loop_0 (fun n i a => wX_joinTarget_2 post (nI t) xP xC xA xL xO xQ xS xK n (nI i) dA aA po st jm pl op el a ip va ov oc) (fun i a => a = dl_row (fun o => so o &&& po (t * 8 + o)) so i) 8 so (dl_row_0 _ _).symm ?_ ?_
  · intro n a ha
    subst ha
    exact br_t (nI_le (a := 8) (b := 8) (by omega) (by omega)) h
  · intro n i a hi ha ih
    subst ha
    refine br_f (nI_ge (b := 8) hi (by omega)) ⟨vp_in_nI hi (by omega), ?_⟩
    unfold wpX_cell
    rw [dl_m8]
    dsimp only
    rw [dl_c (show t * 8 + i < 2 ^ 31 by omega), dl_c (show i < 2 ^ 31 by omega), dl_row_n]
    exact ⟨vp_in_nI (by omega) (by omega), vp_in_nI (by omega) (by omega), nm_e (nm_r (nI_1 i) (ih _ (dl_row_s rfl)))⟩
/-! blocks -/
def dl_seg (f g : Nat → Int32) (b n : Nat) : Nat → Int32 := fun x => if b ≤ x ∧ x < b + n then f (x - b) else g x
theorem dl_seg_0 (f g : Nat → Int32) (b : Nat) : dl_seg f g b 0 = g := by
  funext x
  exact if_neg (by omega)
theorem dl_seg_s {f g : Nat → Int32} {b n : Nat} {z : Int32} (h : z = f n) : upd (dl_seg f g b n) (b + n) z = dl_seg f g b (n + 1) := by
  funext x
  unfold upd dl_seg
  by_cases e : x = b + n
  · subst e
    rw [if_pos rfl, if_pos (by omega), h, Nat.add_sub_cancel_left]
  · rw [if_neg e]
    by_cases l : b ≤ x ∧ x < b + n
    · rw [if_pos l, if_pos (by omega)]
    · rw [if_neg l, if_neg (by omega)]
theorem dl_seg_i {f g : Nat → Int32} {b n x : Nat} (h : x < n) : dl_seg f g b n (b + x) = f x := by
  unfold dl_seg
  rw [if_pos (by omega), Nat.add_sub_cancel_left]
theorem dl_seg_o {f g : Nat → Int32} {b n x : Nat} (h : x < b) : dl_seg f g b n x = g x := if_neg (by omega)
theorem dx_open {post : Int32 → St2 → Prop} {D t i : Nat} (hD : D < 8) (ht : t < 20) (h : post 0 (xP, xC, xA, xL, nI (D + 1), xQ, xS, xK, dA, aA, po, st, jm, dl_seg (dl_S2 pl po so D t) pl ((D + 1) * 8) 8, upd op D (nI i), upd el D (-1), dl_S2 pl po so D t, ip, va, ov, oc)) : wpX_openBlock post (xP, xC, xA, xL, nI D, xQ, xS, xK, dA, aA, po, st, jm, pl, op, el, so, ip, va, ov, oc) (nI i) (nI t) := by
  unfold wpX_openBlock
  refine br_t (nI_lt (b := 8) hD (by omega)) (dx_takePc (by omega) (dx_join ht ?_))
  have c := dl_c (show D < 2 ^ 31 by omega)
  refine ⟨vp_in_nI hD (by omega), nm_r (e' := upd op D (nI i)) (by rw [c]) ⟨vp_in_nI hD (by omega), nm_r (e' := upd el D (-1)) (by rw [c]) (nm_r (nI_1 D) ?_)⟩⟩
  refine loop_0 (fun n k a => wX_openBlock_52 post xP xC xA xL (nI (D + 1)) xQ xS xK n (nI k) dA aA po st jm a (upd op D (nI i)) (upd el D (-1)) (dl_S2 pl po so D t) ip va ov oc) (fun k a => a = dl_seg (dl_S2 pl po so D t) pl ((D + 1) * 8) k) 8 pl (dl_seg_0 _ _ _).symm ?_ ?_
  · intro n a ha
    subst ha
    exact br_t (nI_le (a := 8) (b := 8) (by omega) (by omega)) h
  · intro n k a hk ha ih
    subst ha
    refine br_f (nI_ge (b := 8) hk (by omega)) ?_
    unfold wpX_cell
    rw [dl_m8]
    dsimp only
    rw [dl_c (show (D + 1) * 8 + k < 2 ^ 31 by omega), dl_c (show k < 2 ^ 31 by omega)]
    exact ⟨vp_in_nI (by omega) (by omega), vp_in_nI (by omega) (by omega), nm_e (nm_r (nI_1 k) (ih _ (dl_seg_s rfl)))⟩
theorem dx_open8 {post : Int32 → St2 → Prop} {D t i : Nat} (hD : 8 ≤ D) (hD2 : D < 2 ^ 31) (h : post 2 (xP, xC, xA, xL, nI D, xQ, xS, xK, dA, aA, po, st, jm, pl, op, el, so, ip, va, ov, oc)) : wpX_openBlock post (xP, xC, xA, xL, nI D, xQ, xS, xK, dA, aA, po, st, jm, pl, op, el, so, ip, va, ov, oc) (nI i) (nI t) := by
  unfold wpX_openBlock
  exact br_f (nI_nlt (b := 8) hD hD2) h
theorem dx_isWhile {post : Int32 → Prop} {i : Nat} (hi : i < 64) (h1 : st (i * 4) = 11 → post 1) (h0 : ¬ st (i * 4) = 11 → post 0) : wpX_isWhile post (xP, xC, xA, xL, xO, xQ, xS, xK, dA, aA, po, st, jm, pl, op, el, so, ip, va, ov, oc) (nI i) := by
  unfold wpX_isWhile
  rw [dl_m4, dl_c (show i * 4 < 2 ^ 31 by omega)]
  exact ⟨vp_in_nI (by omega) (by omega), br_c h1 h0⟩
theorem dx_split0 {post : Int32 → St2 → Prop} {i : Nat} (h : post 1 (xP, xC, xA, xL, nI 0, xQ, xS, xK, dA, aA, po, st, jm, pl, op, el, so, ip, va, ov, oc)) : wpX_splitBlock post (xP, xC, xA, xL, nI 0, xQ, xS, xK, dA, aA, po, st, jm, pl, op, el, so, ip, va, ov, oc) (nI i) := by
  unfold wpX_splitBlock
  exact br_t nI_0 h
theorem dx_split {post : Int32 → St2 → Prop} {D o i : Nat} (hD : D < 8) (ho : op D = nI o) (ho64 : o < 64) (h1 : (st (o * 4) = 11 ∨ ¬ el D = -1) → post 1 (xP, xC, xA, xL, nI (D + 1), xQ, xS, xK, dA, aA, po, st, jm, pl, op, el, so, ip, va, ov, oc)) (h0 : ¬ st (o * 4) = 11 → el D = -1 → post 0 (xP, xC, xA, xL, nI (D + 1), xQ, xS, xK, dA, aA, po, st, jm, pl, op, upd el D (nI i), so, ip, va, ov, oc)) : wpX_splitBlock post (xP, xC, xA, xL, nI (D + 1), xQ, xS, xK, dA, aA, po, st, jm, pl, op, el, so, ip, va, ov, oc) (nI i) := by
  unfold wpX_splitBlock
  have v : vp_in (nI D) 8 := vp_in_nI hD (by omega)
  refine br_f (nI_ne0 (by omega) (by omega)) (nm_r (nI_pred D) ⟨v, ?_⟩)
  rw [dl_c (show D < 2 ^ 31 by omega), ho]
  exact dx_isWhile ho64 (fun z => br_f (by decide) (h1 (Or.inl z))) (fun z => br_t rfl ⟨v, br_c (fun y => ⟨v, nm_e (h0 z y)⟩) (fun y => h1 (Or.inr y))⟩)
theorem dx_clb0 {post : Int32 → St2 → Prop} {i : Nat} (h : post 1 (xP, xC, xA, xL, nI 0, xQ, xS, xK, dA, aA, po, st, jm, pl, op, el, so, ip, va, ov, oc)) : wpX_closeBlock post (xP, xC, xA, xL, nI 0, xQ, xS, xK, dA, aA, po, st, jm, pl, op, el, so, ip, va, ov, oc) (nI i) := by
  unfold wpX_closeBlock
  exact br_t nI_0 h
/-- the jumps that closing a block writes -/
def dl_j1 (jm : Nat → Int32) (o i : Nat) (z : Int32) : Nat → Int32 := upd (upd jm o (nI (i + 1))) i z
def dl_j2 (jm : Nat → Int32) (o m i : Nat) (z : Int32) : Nat → Int32 := upd (upd (dl_j1 jm o i z) o (nI (m + 1))) m (nI (i + 1))
theorem dx_clb {post : Int32 → St2 → Prop} {D o i : Nat} (hD : D < 8) (hi : i < 64) (ho : op D = nI o) (ho64 : o < 64) (h : el D = -1 → post 0 (xP, xC, xA, xL, nI D, xQ, xS, xK, dA, aA, po, st, dl_j1 jm o i (if st (o * 4) = 11 then nI o else nI (i + 1)), pl, op, el, so, ip, va, ov, oc)) (hm : ∀ m, m < 64 → el D = nI m → post 0 (xP, xC, xA, xL, nI D, xQ, xS, xK, dA, aA, po, st, dl_j2 jm o m i (if st (o * 4) = 11 then nI o else nI (i + 1)), pl, op, el, so, ip, va, ov, oc)) (he : el D = -1 ∨ ∃ m, m < 64 ∧ el D = nI m) : wpX_closeBlock post (xP, xC, xA, xL, nI (D + 1), xQ, xS, xK, dA, aA, po, st, jm, pl, op, el, so, ip, va, ov, oc) (nI i) := by
  unfold wpX_closeBlock
  have v : vp_in (nI D) 8 := vp_in_nI hD (by omega)
  have cD := dl_c (show D < 2 ^ 31 by omega)
  have co := dl_c (show o < 2 ^ 31 by omega)
  have ci := dl_c (show i < 2 ^ 31 by omega)
  refine br_f (nI_ne0 (by omega) (by omega)) (nm_r (nI_pred D) ⟨v, nm_r (e' := nI o) (by rw [cD]; exact ho) ⟨v, nm_r (e' := el D) (by rw [cD]) (nm_r (nI_1 i) ⟨vp_in_nI ho64 (by omega), nm_r (e' := upd jm o (nI (i + 1))) (by rw [co]) ?_⟩)⟩⟩)
  have fin : ∀ z : Int32, z = (if st (o * 4) = 11 then nI o else nI (i + 1)) → wX_closeBlock_71 post (nI o) (el D) (nI (i + 1)) z (nI i) xP xC xA xL (nI D) xQ xS xK dA aA po st (upd jm o (nI (i + 1))) pl op el so ip va ov oc := by
    intro z hz
    subst hz
    unfold wX_closeBlock_71
    refine ⟨vp_in_nI hi (by omega), nm_r (e' := dl_j1 jm o i (if st (o * 4) = 11 then nI o else nI (i + 1))) (by rw [ci]; rfl) (br_c (fun y => h y) (fun y => ?_))⟩
    rcases he with he | ⟨m, hm64, he⟩
    · exact absurd he y
    · rw [he]
      have cm := dl_c (show m < 2 ^ 31 by omega)
      refine ⟨vp_in_nI ho64 (by omega), nm_r (e' := upd (dl_j1 jm o i (if st (o * 4) = 11 then nI o else nI (i + 1))) o (nI (m + 1))) (by rw [co, nI_1]) ⟨vp_in_nI hm64 (by omega), nm_r (e' := dl_j2 jm o m i (if st (o * 4) = 11 then nI o else nI (i + 1))) (by rw [cm]; rfl) (hm m hm64 he)⟩⟩
  exact dx_isWhile ho64 (fun z => br_f (by decide) (fin _ (if_pos z).symm)) (fun z => br_t rfl (fin _ (if_neg z).symm))
/-! one statement of a check, by its kind -/
theorem dl_s0 {i : Nat} (h : i < 64) : vp_in (nI (i * 4)) 256 ∧ (nI (i * 4)).toNatClampNeg = i * 4 := ⟨vp_in_nI (by omega) (by omega), dl_c (by omega)⟩
theorem dl_s1 {i : Nat} (h : i < 64) : vp_in (nI (i * 4) + 1) 256 ∧ (nI (i * 4) + 1).toNatClampNeg = i * 4 + 1 := by
  rw [nI_1]
  exact ⟨vp_in_nI (by omega) (by omega), dl_c (by omega)⟩
theorem dl_s2 {i : Nat} (h : i < 64) : vp_in (nI (i * 4) + 2) 256 ∧ (nI (i * 4) + 2).toNatClampNeg = i * 4 + 2 := by
  rw [show nI (i * 4) + 2 = nI (i * 4 + 2) from nI_add _ 2]
  exact ⟨vp_in_nI (by omega) (by omega), dl_c (by omega)⟩
theorem dl_s3 {i : Nat} (h : i < 64) : vp_in (nI (i * 4) + 3) 256 ∧ (nI (i * 4) + 3).toNatClampNeg = i * 4 + 3 := by
  rw [show nI (i * 4) + 3 = nI (i * 4 + 3) from nI_add _ 3]
  exact ⟨vp_in_nI (by omega) (by omega), dl_c (by omega)⟩
theorem dx_st1 {post : Int32 → St2 → Prop} {P D i t : Nat} (hP : P ≤ 8) (hD : D ≤ 8) (hi : i < 64) (hk : st (i * 4) = 1) (ha : st (i * 4 + 1) = nI t) (ht : t < 20) (h0 : dl_fl P aA po (dl_S1 pl so D) t 0 → post 0 (nI P, xC, xA, xL, nI D, xQ, xS, xK, dA, aA, po, st, jm, pl, op, el, dl_S1 pl so D, ip, va, ov, oc)) (h3 : ¬ dl_fl P aA po (dl_S1 pl so D) t 0 → post 3 (nI P, xC, xA, xL, nI D, xQ, xS, xK, dA, aA, po, st, jm, pl, op, el, dl_S1 pl so D, ip, va, ov, oc)) : wpX_statementError post (nI P, xC, xA, xL, nI D, xQ, xS, xK, dA, aA, po, st, jm, pl, op, el, so, ip, va, ov, oc) (nI i) := by
  unfold wpX_statementError
  obtain ⟨v0, c0⟩ := dl_s0 hi
  obtain ⟨v1, c1⟩ := dl_s1 hi
  obtain ⟨v2, c2⟩ := dl_s2 hi
  refine nm_r (dl_m4 i) ⟨v1, nm_r (e' := nI t) (by rw [c1]; exact ha) ⟨v2, nm_r (e' := st (i * 4 + 2)) (by rw [c2]) ⟨v0, nm_r (e' := 1) (by rw [c0]; exact hk) (br_f (by decide) (br_f (by decide) (br_t rfl (dx_takePc hD (dx_flows hP ht (fun z => br_f (by decide) (h0 z)) (fun z => br_t rfl (h3 z)))))))⟩⟩⟩
theorem dx_st2 {post : Int32 → St2 → Prop} {P D i t b : Nat} (hP : P ≤ 8) (hD : D ≤ 8) (hi : i < 64) (hk : st (i * 4) = 2) (ha : st (i * 4 + 1) = nI t) (hb : st (i * 4 + 2) = nI b) (ht : t < 20) (hb' : b < 20) (h0 : dl_fl P aA po (dl_S2 pl po so D b) t 0 → post 0 (nI P, xC, xA, xL, nI D, xQ, xS, xK, dA, aA, po, st, jm, pl, op, el, dl_S2 pl po so D b, ip, va, ov, oc)) (h3 : ¬ dl_fl P aA po (dl_S2 pl po so D b) t 0 → post 3 (nI P, xC, xA, xL, nI D, xQ, xS, xK, dA, aA, po, st, jm, pl, op, el, dl_S2 pl po so D b, ip, va, ov, oc)) : wpX_statementError post (nI P, xC, xA, xL, nI D, xQ, xS, xK, dA, aA, po, st, jm, pl, op, el, so, ip, va, ov, oc) (nI i) := by
  unfold wpX_statementError
  obtain ⟨v0, c0⟩ := dl_s0 hi
  obtain ⟨v1, c1⟩ := dl_s1 hi
  obtain ⟨v2, c2⟩ := dl_s2 hi
  refine nm_r (dl_m4 i) ⟨v1, nm_r (e' := nI t) (by rw [c1]; exact ha) ⟨v2, nm_r (e' := nI b) (by rw [c2]; exact hb) ⟨v0, nm_r (e' := 2) (by rw [c0]; exact hk) (br_f (by decide) (br_f (by decide) (br_f (by decide) (br_t rfl (dx_takePc hD (dx_join hb' (dx_flows hP ht (fun z => br_f (by decide) (h0 z)) (fun z => br_t rfl (h3 z)))))))))⟩⟩⟩
theorem dx_st12 {post : Int32 → St2 → Prop} {P D i t b : Nat} (hP : P ≤ 8) (hD : D ≤ 8) (hi : i < 64) (hk : st (i * 4) = 12) (ha : st (i * 4 + 1) = nI t) (hb : st (i * 4 + 2) = nI b) (ht : t < 4) (hb' : b < 20) (h0 : dl_fl P aA po (dl_S2 pl po so D b) (16 + t) 0 → post 0 (nI P, xC, xA, xL, nI D, xQ, xS, xK, dA, aA, po, st, jm, pl, op, el, dl_S2 pl po so D b, ip, va, ov, oc)) (h3 : ¬ dl_fl P aA po (dl_S2 pl po so D b) (16 + t) 0 → post 3 (nI P, xC, xA, xL, nI D, xQ, xS, xK, dA, aA, po, st, jm, pl, op, el, dl_S2 pl po so D b, ip, va, ov, oc)) : wpX_statementError post (nI P, xC, xA, xL, nI D, xQ, xS, xK, dA, aA, po, st, jm, pl, op, el, so, ip, va, ov, oc) (nI i) := by
  unfold wpX_statementError
  obtain ⟨v0, c0⟩ := dl_s0 hi
  obtain ⟨v1, c1⟩ := dl_s1 hi
  obtain ⟨v2, c2⟩ := dl_s2 hi
  have e16 : (16 : Int32) + nI t = nI (16 + t) := nI_add 16 t
  refine nm_r (dl_m4 i) ⟨v1, nm_r (e' := nI t) (by rw [c1]; exact ha) ⟨v2, nm_r (e' := nI b) (by rw [c2]; exact hb) ⟨v0, nm_r (e' := 12) (by rw [c0]; exact hk) (br_f (by decide) (br_f (by decide) (br_f (by decide) (br_f (by decide) (br_f (by decide) (br_f (by decide) (br_f (by decide) (br_f (by decide) (br_f (by decide) (br_f (by decide) (br_f (by decide) (br_f (by decide) (br_f (by decide) (br_t rfl (dx_takePc hD (dx_join hb' ?_))))))))))))))))⟩⟩⟩
  show wpX_flowsTo _ _ (16 + nI t) 0
  rw [e16]
  exact dx_flows hP (by omega) (fun z => br_f (by decide) (h0 z)) (fun z => br_t rfl (h3 z))
theorem dx_st226 {post : Int32 → St2 → Prop} {P D i t b c : Nat} (hP : P ≤ 8) (hD : D ≤ 8) (hi : i < 64) (hc : st (i * 4 + 3) = nI c) (ht : t < 20) (hb' : b < 20) (hc' : c < 20) (h0 : dl_fl P aA po (dl_Sj po (dl_S2 pl po so D b) c) t 0 → post 0 (nI P, xC, xA, xL, nI D, xQ, xS, xK, dA, aA, po, st, jm, pl, op, el, dl_Sj po (dl_S2 pl po so D b) c, ip, va, ov, oc)) (h3 : ¬ dl_fl P aA po (dl_Sj po (dl_S2 pl po so D b) c) t 0 → post 3 (nI P, xC, xA, xL, nI D, xQ, xS, xK, dA, aA, po, st, jm, pl, op, el, dl_Sj po (dl_S2 pl po so D b) c, ip, va, ov, oc)) : wX_statementError_226 post (nI (i * 4)) (nI t) (nI b) (nI P) xC xA xL (nI D) xQ xS xK dA aA po st jm pl op el so ip va ov oc := by
  unfold wX_statementError_226
  obtain ⟨v3, c3⟩ := dl_s3 hi
  refine dx_takePc hD (dx_join hb' ⟨v3, ?_⟩)
  rw [c3, hc]
  exact dx_join hc' (dx_flows hP ht (fun z => br_f (by decide) (h0 z)) (fun z => br_t rfl (h3 z)))
theorem dx_st3 {post : Int32 → St2 → Prop} {P D i t b c : Nat} (hP : P ≤ 8) (hD : D ≤ 8) (hi : i < 64) (hk : st (i * 4) = 3) (ha : st (i * 4 + 1) = nI t) (hb : st (i * 4 + 2) = nI b) (hc : st (i * 4 + 3) = nI c) (ht : t < 20) (hb' : b < 20) (hc' : c < 20) (h0 : dl_fl P aA po (dl_Sj po (dl_S2 pl po so D b) c) t 0 → post 0 (nI P, xC, xA, xL, nI D, xQ, xS, xK, dA, aA, po, st, jm, pl, op, el, dl_Sj po (dl_S2 pl po so D b) c, ip, va, ov, oc)) (h3 : ¬ dl_fl P aA po (dl_Sj po (dl_S2 pl po so D b) c) t 0 → post 3 (nI P, xC, xA, xL, nI D, xQ, xS, xK, dA, aA, po, st, jm, pl, op, el, dl_Sj po (dl_S2 pl po so D b) c, ip, va, ov, oc)) : wpX_statementError post (nI P, xC, xA, xL, nI D, xQ, xS, xK, dA, aA, po, st, jm, pl, op, el, so, ip, va, ov, oc) (nI i) := by
  unfold wpX_statementError
  obtain ⟨v0, c0⟩ := dl_s0 hi
  obtain ⟨v1, c1⟩ := dl_s1 hi
  obtain ⟨v2, c2⟩ := dl_s2 hi
  refine nm_r (dl_m4 i) ⟨v1, nm_r (e' := nI t) (by rw [c1]; exact ha) ⟨v2, nm_r (e' := nI b) (by rw [c2]; exact hb) ⟨v0, nm_r (e' := 3) (by rw [c0]; exact hk) (br_f (by decide) (br_f (by decide) (br_f (by decide) (br_f (by decide) (br_t rfl (dx_st226 hP hD hi hc ht hb' hc' h0 h3))))))⟩⟩⟩
theorem dx_st4 {post : Int32 → St2 → Prop} {P D i t b c : Nat} (hP : P ≤ 8) (hD : D ≤ 8) (hi : i < 64) (hk : st (i * 4) = 4) (ha : st (i * 4 + 1) = nI t) (hb : st (i * 4 + 2) = nI b) (hc : st (i * 4 + 3) = nI c) (ht : t < 20) (hb' : b < 20) (hc' : c < 20) (h0 : dl_fl P aA po (dl_Sj po (dl_S2 pl po so D b) c) t 0 → post 0 (nI P, xC, xA, xL, nI D, xQ, xS, xK, dA, aA, po, st, jm, pl, op, el, dl_Sj po (dl_S2 pl po so D b) c, ip, va, ov, oc)) (h3 : ¬ dl_fl P aA po (dl_Sj po (dl_S2 pl po so D b) c) t 0 → post 3 (nI P, xC, xA, xL, nI D, xQ, xS, xK, dA, aA, po, st, jm, pl, op, el, dl_Sj po (dl_S2 pl po so D b) c, ip, va, ov, oc)) : wpX_statementError post (nI P, xC, xA, xL, nI D, xQ, xS, xK, dA, aA, po, st, jm, pl, op, el, so, ip, va, ov, oc) (nI i) := by
  unfold wpX_statementError
  obtain ⟨v0, c0⟩ := dl_s0 hi
  obtain ⟨v1, c1⟩ := dl_s1 hi
  obtain ⟨v2, c2⟩ := dl_s2 hi
  refine nm_r (dl_m4 i) ⟨v1, nm_r (e' := nI t) (by rw [c1]; exact ha) ⟨v2, nm_r (e' := nI b) (by rw [c2]; exact hb) ⟨v0, nm_r (e' := 4) (by rw [c0]; exact hk) (br_f (by decide) (br_f (by decide) (br_f (by decide) (br_f (by decide) (br_f (by decide) (br_t rfl (dx_st226 hP hD hi hc ht hb' hc' h0 h3)))))))⟩⟩⟩
theorem dx_st5 {post : Int32 → St2 → Prop} {P D i t b c : Nat} (hP : P ≤ 8) (hD : D ≤ 8) (hi : i < 64) (hk : st (i * 4) = 5) (ha : st (i * 4 + 1) = nI t) (hb : st (i * 4 + 2) = nI b) (hc : st (i * 4 + 3) = nI c) (ht : t < 20) (hb' : b < 20) (hc' : c < 20) (h0 : dl_fl P aA po (dl_Sj po (dl_S2 pl po so D b) c) t 0 → post 0 (nI P, xC, xA, xL, nI D, xQ, xS, xK, dA, aA, po, st, jm, pl, op, el, dl_Sj po (dl_S2 pl po so D b) c, ip, va, ov, oc)) (h3 : ¬ dl_fl P aA po (dl_Sj po (dl_S2 pl po so D b) c) t 0 → post 3 (nI P, xC, xA, xL, nI D, xQ, xS, xK, dA, aA, po, st, jm, pl, op, el, dl_Sj po (dl_S2 pl po so D b) c, ip, va, ov, oc)) : wpX_statementError post (nI P, xC, xA, xL, nI D, xQ, xS, xK, dA, aA, po, st, jm, pl, op, el, so, ip, va, ov, oc) (nI i) := by
  unfold wpX_statementError
  obtain ⟨v0, c0⟩ := dl_s0 hi
  obtain ⟨v1, c1⟩ := dl_s1 hi
  obtain ⟨v2, c2⟩ := dl_s2 hi
  refine nm_r (dl_m4 i) ⟨v1, nm_r (e' := nI t) (by rw [c1]; exact ha) ⟨v2, nm_r (e' := nI b) (by rw [c2]; exact hb) ⟨v0, nm_r (e' := 5) (by rw [c0]; exact hk) (br_f (by decide) (br_f (by decide) (br_f (by decide) (br_f (by decide) (br_f (by decide) (br_f (by decide) (br_t rfl (dx_st226 hP hD hi hc ht hb' hc' h0 h3))))))))⟩⟩⟩
theorem dx_st6 {post : Int32 → St2 → Prop} {P D i t b c : Nat} (hP : P ≤ 8) (hD : D ≤ 8) (hi : i < 64) (hk : st (i * 4) = 6) (ha : st (i * 4 + 1) = nI t) (hb : st (i * 4 + 2) = nI b) (hc : st (i * 4 + 3) = nI c) (ht : t < 20) (hb' : b < 20) (hc' : c < 20) (h0 : dl_fl P aA po (dl_Sj po (dl_S2 pl po so D b) c) t 0 → post 0 (nI P, xC, xA, xL, nI D, xQ, xS, xK, dA, aA, po, st, jm, pl, op, el, dl_Sj po (dl_S2 pl po so D b) c, ip, va, ov, oc)) (h3 : ¬ dl_fl P aA po (dl_Sj po (dl_S2 pl po so D b) c) t 0 → post 3 (nI P, xC, xA, xL, nI D, xQ, xS, xK, dA, aA, po, st, jm, pl, op, el, dl_Sj po (dl_S2 pl po so D b) c, ip, va, ov, oc)) : wpX_statementError post (nI P, xC, xA, xL, nI D, xQ, xS, xK, dA, aA, po, st, jm, pl, op, el, so, ip, va, ov, oc) (nI i) := by
  unfold wpX_statementError
  obtain ⟨v0, c0⟩ := dl_s0 hi
  obtain ⟨v1, c1⟩ := dl_s1 hi
  obtain ⟨v2, c2⟩ := dl_s2 hi
  refine nm_r (dl_m4 i) ⟨v1, nm_r (e' := nI t) (by rw [c1]; exact ha) ⟨v2, nm_r (e' := nI b) (by rw [c2]; exact hb) ⟨v0, nm_r (e' := 6) (by rw [c0]; exact hk) (br_f (by decide) (br_f (by decide) (br_f (by decide) (br_f (by decide) (br_f (by decide) (br_f (by decide) (br_f (by decide) (br_t rfl (dx_st226 hP hD hi hc ht hb' hc' h0 h3)))))))))⟩⟩⟩
theorem dx_st7 {post : Int32 → St2 → Prop} {P D i t b c : Nat} (hP : P ≤ 8) (hD : D ≤ 8) (hi : i < 64) (hk : st (i * 4) = 7) (ha : st (i * 4 + 1) = nI t) (hb : st (i * 4 + 2) = nI b) (hc : st (i * 4 + 3) = nI c) (ht : t < 20) (hb' : b < 20) (hc' : c < 20) (h0 : dl_fl P aA po (dl_Sj po (dl_S2 pl po so D b) c) t 0 → post 0 (nI P, xC, xA, xL, nI D, xQ, xS, xK, dA, aA, po, st, jm, pl, op, el, dl_Sj po (dl_S2 pl po so D b) c, ip, va, ov, oc)) (h3 : ¬ dl_fl P aA po (dl_Sj po (dl_S2 pl po so D b) c) t 0 → post 3 (nI P, xC, xA, xL, nI D, xQ, xS, xK, dA, aA, po, st, jm, pl, op, el, dl_Sj po (dl_S2 pl po so D b) c, ip, va, ov, oc)) : wpX_statementError post (nI P, xC, xA, xL, nI D, xQ, xS, xK, dA, aA, po, st, jm, pl, op, el, so, ip, va, ov, oc) (nI i) := by
  unfold wpX_statementError
  obtain ⟨v0, c0⟩ := dl_s0 hi
  obtain ⟨v1, c1⟩ := dl_s1 hi
  obtain ⟨v2, c2⟩ := dl_s2 hi
  refine nm_r (dl_m4 i) ⟨v1, nm_r (e' := nI t) (by rw [c1]; exact ha) ⟨v2, nm_r (e' := nI b) (by rw [c2]; exact hb) ⟨v0, nm_r (e' := 7) (by rw [c0]; exact hk) (br_f (by decide) (br_f (by decide) (br_f (by decide) (br_f (by decide) (br_f (by decide) (br_f (by decide) (br_f (by decide) (br_f (by decide) (br_t rfl (dx_st226 hP hD hi hc ht hb' hc' h0 h3))))))))))⟩⟩⟩
theorem dx_st13 {post : Int32 → St2 → Prop} {P D i t b : Nat} (hP : P ≤ 8) (hD : D ≤ 8) (hi : i < 64) (hk : st (i * 4) = 13) (ha : st (i * 4 + 1) = nI t) (hb : st (i * 4 + 2) = nI b) (ht : t < 20) (hb' : b < 20) (h3 : ¬ dl_fl P aA po (dl_S1 pl so D) t 0 → post 3 (nI P, xC, xA, xL, nI D, xQ, xS, xK, dA, aA, po, st, jm, pl, op, el, dl_S1 pl so D, ip, va, ov, oc)) (h4 : dl_fl P aA po (dl_S1 pl so D) t 0 → ¬ dl_fl P aA po (dl_St po (dl_S1 pl so D) b) t xA → post 4 (nI P, xC, xA, xL, nI D, xQ, xS, xK, dA, aA, po, st, jm, pl, op, el, dl_St po (dl_S1 pl so D) b, ip, va, ov, oc)) (h0 : dl_fl P aA po (dl_S1 pl so D) t 0 → dl_fl P aA po (dl_St po (dl_S1 pl so D) b) t xA → post 0 (nI P, xC, xA, xL, nI D, xQ, xS, xK, dA, aA, po, st, jm, pl, op, el, dl_St po (dl_S1 pl so D) b, ip, va, ov, oc)) : wpX_statementError post (nI P, xC, xA, xL, nI D, xQ, xS, xK, dA, aA, po, st, jm, pl, op, el, so, ip, va, ov, oc) (nI i) := by
  unfold wpX_statementError
  obtain ⟨v0, c0⟩ := dl_s0 hi
  obtain ⟨v1, c1⟩ := dl_s1 hi
  obtain ⟨v2, c2⟩ := dl_s2 hi
  refine nm_r (dl_m4 i) ⟨v1, nm_r (e' := nI t) (by rw [c1]; exact ha) ⟨v2, nm_r (e' := nI b) (by rw [c2]; exact hb) ⟨v0, nm_r (e' := 13) (by rw [c0]; exact hk) (br_f (by decide) (br_f (by decide) (br_f (by decide) (br_f (by decide) (br_f (by decide) (br_f (by decide) (br_f (by decide) (br_f (by decide) (br_f (by decide) (br_f (by decide) (br_f (by decide) (br_f (by decide) (br_f (by decide) (br_f (by decide) (br_t rfl (dx_takePc hD (dx_flows hP ht (fun z => br_f (by decide) (dx_takeT hb' (dx_flows hP ht (fun y => br_f (by decide) (h0 z y)) (fun y => br_t rfl (h4 z y))))) (fun z => br_t rfl (h3 z)))))))))))))))))))⟩⟩⟩
theorem dx_st8 {post : Int32 → St2 → Prop} {D i t : Nat} (hD : D < 8) (hi : i < 64) (hk : st (i * 4) = 8) (ha : st (i * 4 + 1) = nI t) (ht : t < 20) (h : post 0 (xP, xC, xA, xL, nI (D + 1), xQ, xS, xK, dA, aA, po, st, jm, dl_seg (dl_S2 pl po so D t) pl ((D + 1) * 8) 8, upd op D (nI i), upd el D (-1), dl_S2 pl po so D t, ip, va, ov, oc)) : wpX_statementError post (xP, xC, xA, xL, nI D, xQ, xS, xK, dA, aA, po, st, jm, pl, op, el, so, ip, va, ov, oc) (nI i) := by
  unfold wpX_statementError
  obtain ⟨v0, c0⟩ := dl_s0 hi
  obtain ⟨v1, c1⟩ := dl_s1 hi
  obtain ⟨v2, c2⟩ := dl_s2 hi
  refine nm_r (dl_m4 i) ⟨v1, nm_r (e' := nI t) (by rw [c1]; exact ha) ⟨v2, nm_r (e' := st (i * 4 + 2)) (by rw [c2]) ⟨v0, nm_r (e' := 8) (by rw [c0]; exact hk) (br_f (by decide) (br_f (by decide) (br_f (by decide) (br_f (by decide) (br_f (by decide) (br_f (by decide) (br_f (by decide) (br_f (by decide) (br_f (by decide) (br_t rfl (?_)))))))))))⟩⟩⟩
  unfold wX_statementError_96
  exact dx_open hD ht h
theorem dx_st88 {post : Int32 → St2 → Prop} {i t : Nat} (hi : i < 64) (hk : st (i * 4) = 8) (ha : st (i * 4 + 1) = nI t) (h : post 2 (xP, xC, xA, xL, nI 8, xQ, xS, xK, dA, aA, po, st, jm, pl, op, el, so, ip, va, ov, oc)) : wpX_statementError post (xP, xC, xA, xL, nI 8, xQ, xS, xK, dA, aA, po, st, jm, pl, op, el, so, ip, va, ov, oc) (nI i) := by
  unfold wpX_statementError
  obtain ⟨v0, c0⟩ := dl_s0 hi
  obtain ⟨v1, c1⟩ := dl_s1 hi
  obtain ⟨v2, c2⟩ := dl_s2 hi
  refine nm_r (dl_m4 i) ⟨v1, nm_r (e' := nI t) (by rw [c1]; exact ha) ⟨v2, nm_r (e' := st (i * 4 + 2)) (by rw [c2]) ⟨v0, nm_r (e' := 8) (by rw [c0]; exact hk) (br_f (by decide) (br_f (by decide) (br_f (by decide) (br_f (by decide) (br_f (by decide) (br_f (by decide) (br_f (by decide) (br_f (by decide) (br_f (by decide) (br_t rfl (?_)))))))))))⟩⟩⟩
  unfold wX_statementError_96
  exact dx_open8 (Nat.le_refl _) (by omega) h
theorem dx_st11 {post : Int32 → St2 → Prop} {D i t : Nat} (hD : D < 8) (hi : i < 64) (hk : st (i * 4) = 11) (ha : st (i * 4 + 1) = nI t) (ht : t < 20) (h : post 0 (xP, xC, xA, xL, nI (D + 1), xQ, xS, xK, dA, aA, po, st, jm, dl_seg (dl_S2 pl po so D t) pl ((D + 1) * 8) 8, upd op D (nI i), upd el D (-1), dl_S2 pl po so D t, ip, va, ov, oc)) : wpX_statementError post (xP, xC, xA, xL, nI D, xQ, xS, xK, dA, aA, po, st, jm, pl, op, el, so, ip, va, ov, oc) (nI i) := by
  unfold wpX_statementError
  obtain ⟨v0, c0⟩ := dl_s0 hi
  obtain ⟨v1, c1⟩ := dl_s1 hi
  obtain ⟨v2, c2⟩ := dl_s2 hi
  refine nm_r (dl_m4 i) ⟨v1, nm_r (e' := nI t) (by rw [c1]; exact ha) ⟨v2, nm_r (e' := st (i * 4 + 2)) (by rw [c2]) ⟨v0, nm_r (e' := 11) (by rw [c0]; exact hk) (br_f (by decide) (br_f (by decide) (br_f (by decide) (br_f (by decide) (br_f (by decide) (br_f (by decide) (br_f (by decide) (br_f (by decide) (br_f (by decide) (br_f (by decide) (br_f (by decide) (br_f (by decide) (br_t rfl (?_))))))))))))))⟩⟩⟩
  unfold wX_statementError_96
  exact dx_open hD ht h
theorem dx_st118 {post : Int32 → St2 → Prop} {i t : Nat} (hi : i < 64) (hk : st (i * 4) = 11) (ha : st (i * 4 + 1) = nI t) (h : post 2 (xP, xC, xA, xL, nI 8, xQ, xS, xK, dA, aA, po, st, jm, pl, op, el, so, ip, va, ov, oc)) : wpX_statementError post (xP, xC, xA, xL, nI 8, xQ, xS, xK, dA, aA, po, st, jm, pl, op, el, so, ip, va, ov, oc) (nI i) := by
  unfold wpX_statementError
  obtain ⟨v0, c0⟩ := dl_s0 hi
  obtain ⟨v1, c1⟩ := dl_s1 hi
  obtain ⟨v2, c2⟩ := dl_s2 hi
  refine nm_r (dl_m4 i) ⟨v1, nm_r (e' := nI t) (by rw [c1]; exact ha) ⟨v2, nm_r (e' := st (i * 4 + 2)) (by rw [c2]) ⟨v0, nm_r (e' := 11) (by rw [c0]; exact hk) (br_f (by decide) (br_f (by decide) (br_f (by decide) (br_f (by decide) (br_f (by decide) (br_f (by decide) (br_f (by decide) (br_f (by decide) (br_f (by decide) (br_f (by decide) (br_f (by decide) (br_f (by decide) (br_t rfl (?_))))))))))))))⟩⟩⟩
  unfold wX_statementError_96
  exact dx_open8 (Nat.le_refl _) (by omega) h
theorem dx_st90 {post : Int32 → St2 → Prop} {i : Nat} (hi : i < 64) (hk : st (i * 4) = 9) (h : post 1 (xP, xC, xA, xL, nI 0, xQ, xS, xK, dA, aA, po, st, jm, pl, op, el, so, ip, va, ov, oc)) : wpX_statementError post (xP, xC, xA, xL, nI 0, xQ, xS, xK, dA, aA, po, st, jm, pl, op, el, so, ip, va, ov, oc) (nI i) := by
  unfold wpX_statementError
  obtain ⟨v0, c0⟩ := dl_s0 hi
  obtain ⟨v1, c1⟩ := dl_s1 hi
  obtain ⟨v2, c2⟩ := dl_s2 hi
  exact nm_r (dl_m4 i) ⟨v1, nm_e ⟨v2, nm_e ⟨v0, nm_r (e' := 9) (by rw [c0]; exact hk) (br_f (by decide) (br_f (by decide) (br_f (by decide) (br_f (by decide) (br_f (by decide) (br_f (by decide) (br_f (by decide) (br_f (by decide) (br_f (by decide) (br_f (by decide) (br_t rfl (dx_split0 h))))))))))))⟩⟩⟩
theorem dx_st9 {post : Int32 → St2 → Prop} {D o i : Nat} (hD : D < 8) (ho : op D = nI o) (ho64 : o < 64) (hi : i < 64) (hk : st (i * 4) = 9) (h1 : (st (o * 4) = 11 ∨ ¬ el D = -1) → post 1 (xP, xC, xA, xL, nI (D + 1), xQ, xS, xK, dA, aA, po, st, jm, pl, op, el, so, ip, va, ov, oc)) (h0 : ¬ st (o * 4) = 11 → el D = -1 → post 0 (xP, xC, xA, xL, nI (D + 1), xQ, xS, xK, dA, aA, po, st, jm, pl, op, upd el D (nI i), so, ip, va, ov, oc)) : wpX_statementError post (xP, xC, xA, xL, nI (D + 1), xQ, xS, xK, dA, aA, po, st, jm, pl, op, el, so, ip, va, ov, oc) (nI i) := by
  unfold wpX_statementError
  obtain ⟨v0, c0⟩ := dl_s0 hi
  obtain ⟨v1, c1⟩ := dl_s1 hi
  obtain ⟨v2, c2⟩ := dl_s2 hi
  exact nm_r (dl_m4 i) ⟨v1, nm_e ⟨v2, nm_e ⟨v0, nm_r (e' := 9) (by rw [c0]; exact hk) (br_f (by decide) (br_f (by decide) (br_f (by decide) (br_f (by decide) (br_f (by decide) (br_f (by decide) (br_f (by decide) (br_f (by decide) (br_f (by decide) (br_f (by decide) (br_t rfl (dx_split hD ho ho64 h1 h0))))))))))))⟩⟩⟩
theorem dx_st100 {post : Int32 → St2 → Prop} {i : Nat} (hi : i < 64) (hk : st (i * 4) = 10) (h : post 1 (xP, xC, xA, xL, nI 0, xQ, xS, xK, dA, aA, po, st, jm, pl, op, el, so, ip, va, ov, oc)) : wpX_statementError post (xP, xC, xA, xL, nI 0, xQ, xS, xK, dA, aA, po, st, jm, pl, op, el, so, ip, va, ov, oc) (nI i) := by
  unfold wpX_statementError
  obtain ⟨v0, c0⟩ := dl_s0 hi
  obtain ⟨v1, c1⟩ := dl_s1 hi
  obtain ⟨v2, c2⟩ := dl_s2 hi
  exact nm_r (dl_m4 i) ⟨v1, nm_e ⟨v2, nm_e ⟨v0, nm_r (e' := 10) (by rw [c0]; exact hk) (br_f (by decide) (br_f (by decide) (br_f (by decide) (br_f (by decide) (br_f (by decide) (br_f (by decide) (br_f (by decide) (br_f (by decide) (br_f (by decide) (br_f (by decide) (br_f (by decide) (br_t rfl (dx_clb0 h)))))))))))))⟩⟩⟩
theorem dx_st10 {post : Int32 → St2 → Prop} {D o i : Nat} (hD : D < 8) (ho : op D = nI o) (ho64 : o < 64) (hi : i < 64) (hk : st (i * 4) = 10) (h : el D = -1 → post 0 (xP, xC, xA, xL, nI D, xQ, xS, xK, dA, aA, po, st, dl_j1 jm o i (if st (o * 4) = 11 then nI o else nI (i + 1)), pl, op, el, so, ip, va, ov, oc)) (hm : ∀ m, m < 64 → el D = nI m → post 0 (xP, xC, xA, xL, nI D, xQ, xS, xK, dA, aA, po, st, dl_j2 jm o m i (if st (o * 4) = 11 then nI o else nI (i + 1)), pl, op, el, so, ip, va, ov, oc)) (he : el D = -1 ∨ ∃ m, m < 64 ∧ el D = nI m) : wpX_statementError post (xP, xC, xA, xL, nI (D + 1), xQ, xS, xK, dA, aA, po, st, jm, pl, op, el, so, ip, va, ov, oc) (nI i) := by
  unfold wpX_statementError
  obtain ⟨v0, c0⟩ := dl_s0 hi
  obtain ⟨v1, c1⟩ := dl_s1 hi
  obtain ⟨v2, c2⟩ := dl_s2 hi
  exact nm_r (dl_m4 i) ⟨v1, nm_e ⟨v2, nm_e ⟨v0, nm_r (e' := 10) (by rw [c0]; exact hk) (br_f (by decide) (br_f (by decide) (br_f (by decide) (br_f (by decide) (br_f (by decide) (br_f (by decide) (br_f (by decide) (br_f (by decide) (br_f (by decide) (br_f (by decide) (br_f (by decide) (br_t rfl (dx_clb hD hi ho ho64 h hm he)))))))))))))⟩⟩⟩
end
