/-! where one sits, what one does there -/
def sumN : Nat → (Nat → Int32) → Int32
  | 0, _ => 0
  | n + 1, f => sumN n f + f n
theorem sumN_congr {f g : Nat → Int32} : ∀ {n : Nat}, (∀ i, i < n → f i = g i) → sumN n f = sumN n g
  | 0, _ => rfl
  | n + 1, h => by
    unfold sumN
    rw [sumN_congr (fun i hi => h i (by omega)), h n (by omega)]
def oI : Option Nat → Int32
  | none => -1
  | some r => nI r
def bst (ok : Nat → Prop) [DecidablePred ok] (lt : Nat → Nat → Prop) [DecidableRel lt] : Nat → Option Nat
  | 0 => none
  | n + 1 => match bst ok lt n with
    | none => if ok n then some n else none
    | some b => if ok n ∧ lt b n then some n else some b
theorem bst_ok {ok : Nat → Prop} [DecidablePred ok] {lt : Nat → Nat → Prop} [DecidableRel lt] : ∀ {n b : Nat}, bst ok lt n = some b → b < n ∧ ok b
  | 0, b, h => by cases h
  | n + 1, b, h => by
    unfold bst at h
    cases e : bst ok lt n with
    | none =>
      rw [e] at h
      by_cases q : ok n
      · simp only [q, if_true] at h; cases h; exact ⟨by omega, q⟩
      · simp only [q, if_false] at h; cases h
    | some c =>
      rw [e] at h
      by_cases q : ok n ∧ lt c n
      · simp only [q, and_self, if_true] at h; cases h; exact ⟨by omega, q.1⟩
      · simp only [q, if_false] at h
        cases h
        have := bst_ok e
        exact ⟨by omega, this.2⟩
def fnd (p : Nat → Bool) : Nat → Option Nat
  | 0 => none
  | n + 1 => match fnd p n with
    | some a => some a
    | none => if p n = true then some n else none
theorem fnd_lt {p : Nat → Bool} : ∀ {n a : Nat}, fnd p n = some a → a < n ∧ p a = true
  | 0, _, h => by cases h
  | n + 1, a, h => by
    unfold fnd at h
    cases e : fnd p n with
    | none =>
      rw [e] at h
      by_cases q : p n = true
      · simp only [q, if_true] at h; cases h; exact ⟨by omega, q⟩
      · simp only [q] at h; cases h
    | some b =>
      rw [e] at h
      cases h
      have := fnd_lt e
      exact ⟨by omega, this.2⟩
theorem fnd_le {p : Nat → Bool} {i a : Nat} (h0 : fnd p i = none) (hp : p i = true) : ∀ n, i < n → fnd p n = some i
  | 0, h => by omega
  | n + 1, h => by
    unfold fnd
    by_cases q : n = i
    · subst q; rw [h0]; simp [hp]
    · rw [fnd_le (a := a) h0 hp n (by omega)]
section Spec
variable (V : HV) (g : Int32) (ts : Nat → Int32)
def lkS (S : SV) (d t r : Nat) : Int32 := lkv V d t (ts d) g (S 6 0) (S 3 r)
def likeR (S : SV) (d r : Nat) : Int32 := sumN (V.1 2) fun t => if S 0 t = nI r then lkS V g ts S d t r else 0
def seatS (S : SV) (d : Nat) : Option Nat := bst (fun r => nbit (S 5 0) r) (fun a b => likeR V g ts S d a < likeR V g ts S d b) (V.1 0)
def lstS (S : SV) (d r : Nat) : Option Nat := bst (fun t => S 0 t = nI r) (fun a b => lkS V g ts S d b r < lkS V g ts S d a r) (V.1 2)
def nextS (r : Nat) : Option Nat := fnd (fun b => V.2.2.1 r b) (V.1 0)
end Spec
def up (S : SV) (i j : Nat) (v : Int32) : SV := fun i' j' => if i' = i ∧ j' = j then v else S i' j'
theorem up_at {S : SV} {i j : Nat} {v : Int32} : up S i j v i j = v := by simp [up]
theorem up_ne {S : SV} {i j i' j' : Nat} {v : Int32} (h : ¬ (i' = i ∧ j' = j)) : up S i j v i' j' = S i' j' := by simp only [up, h, if_false]
/-- one who has come -/
def visitS (V : HV) (g : Int32) (ts : Nat → Int32) (d : Nat) (S : SV) : SV := match seatS V g ts S d with
  | none => S
  | some r =>
    let S1 := up (up S 3 r (S 3 r + 1)) 4 d (S 4 d + 1)
    match lstS V g ts S1 d r with
    | none => S1
    | some t => if lkS V g ts S1 d t r < brv V d t (ts d) g (S1 6 0) (S1 3 r) then
        (match nextS V r with
        | none => up S1 2 t (S1 2 t + 1)
        | some b => up (up S1 0 t (nI b)) 1 t (S1 1 t + 1))
      else S1
theorem nI_nm1 {n : Nat} (h : n < 2 ^ 31) : ¬ nI n = -1 := fun z => nI_pos h (by rw [z]; decide)
section Seat
variable {μ : fMem} {V : HV} {h s : Nat} {S : SV} {g : Int32} {ts : Nat → Int32}
theorem isRoped_eq (s : Nat) (x : Int32) (μ : fMem) : f_X7_isRoped s x μ = some ((if (μ.1 s 5 &&& shl 1 x) = 0 then 0 else 1), μ) := by
  unfold f_X7_isRoped
  by_cases q : (μ.1 s 5 &&& shl 1 x) = 0
  · rw [if_pos q, if_pos q, gd_t (Or.inl rfl)]
  · rw [if_neg q, if_neg q, gd_t (Or.inr rfl)]
theorem CQ.rfl' (C : Crs μ V h s S g ts) : CQ μ μ V := ⟨Kp.rfl', C.2.2.2.2.2⟩
theorem seat_spec (C : Crs μ V h s S g ts) {d : Nat} (hd : d < V.1 3) : Ok (f_X0_seat 84 (nI d) μ) (fun x μ' => x = oI (seatS V g ts S d) ∧ CQ μ μ' V) := by
  have hh := C.2.2.2.2.1.1
  have hz := C.2.2.2.2.1.2.1
  have hV := C.1
  have h8 : V.1 2 ≤ 8 := hV.2.2.1
  have hR6 : V.1 0 ≤ 6 := hV.1
  unfold f_X0_seat
  simp only [Nat.reduceAdd]
  rw [fill_spec 120 0 μ (n := 6) (by decide) (by decide), bd_some, Ok_vl]
  generalize hμ0 : sRow μ 120 (fun j => if j < 6 then 0 else μ.1 120 j) = μ0
  have K0 : CQ μ μ0 V := by
    subst hμ0
    refine ⟨⟨rfl, fun k hk => ?_, fun _ _ => rfl⟩, C.2.2.2.2.2.of (sRow_ne (by decide)) rfl⟩
    exact sRow_ne (fun e => hk (by rw [e]; decide))
  have z0 : ∀ r, r < 6 → μ0.1 120 r = 0 := by
    intro r hr
    subst hμ0
    rw [sRow_at]
    simp [hr]
  have C0 := K0.crs C
  rw [C0.2.2.2.2.1.2.2.1, gd_t (kd2 hh), told2 C0.2.2.1, bd_some, Ok_bd]
  refine Ok.mono (Q := fun u (q : Int32 × fMem) => CQ μ q.2 V ∧ ∀ r, r < 6 → nbit (S 5 0) r → q.2.1 120 r = likeR V g ts S d r) (Ok_lp (V.1 2) (fun i (q : Int32 × fMem) => q.1 = nI i ∧ CQ μ q.2 V ∧ ∀ r, r < 6 → nbit (S 5 0) r → q.2.1 120 r = sumN i fun t => if S 0 t = nI r then lkS V g ts S d t r else 0) (by omega) ⟨rfl, K0, fun r hr _ => z0 r hr⟩ ?_) ?_
  · rintro i ⟨x, μ1⟩ hi ⟨hx, K1, hsum⟩
    dsimp only at hx K1 hsum ⊢
    subst hx
    have C1 := K1.crs C
    unfold f_X0_seat_L19
    rcases Nat.lt_or_ge i (V.1 2) with q | q
    · rw [if_neg (nI_ge q (by omega)), Ok_vl, C1.2.2.2.2.1.2.2.2.1, gd_t (kd7 hz), gd_t (show ixo (nI i) 8 from ixN (by omega) (by omega)), nI_clamp (by omega), C1.2.2.2.1.1 i q, Ok_vl]
      have stay : (∀ r, r < 6 → nbit (S 5 0) r → ¬ S 0 i = nI r) → ((0 = 0 ∧ i < V.1 2 ∧ (nI (i + 1), μ1).1 = nI (i + 1) ∧ CQ μ (nI (i + 1), μ1).2 V ∧ ∀ r, r < 6 → nbit (S 5 0) r → (nI (i + 1), μ1).2.1 120 r = sumN (i + 1) fun t => if S 0 t = nI r then lkS V g ts S d t r else 0)) := by
        intro hn
        refine ⟨rfl, q, rfl, K1, fun r hr hb => ?_⟩
        show μ1.1 120 r = sumN i _ + _
        dsimp only
        rw [hsum r hr hb, if_neg (hn r hr hb), Int32.add_zero]
      rcases C.2.1.1 i q with e | ⟨r, hr, e⟩
      · rw [e, if_pos (by decide), Ok_vl, nI_1, Ok_some]
        refine Or.inl (stay fun r hr _ => ?_)
        rw [e]
        exact fun z => nI_nm1 (n := r) (by omega) z.symm
      · rw [e, if_neg (nI_pos (by omega)), if_neg (show ¬ 6 ≤ nI r from nI_ge (b := 6) (by omega) (by omega)), Ok_vl, gd_t (kd7 hz), isRoped_eq, bd_some, C1.2.2.2.1.2.2.2.2.2.1]
        by_cases hb : nbit (S 5 0) r
        · have i6 : ixo (nI r) 6 := ixN (by omega) (by omega)
          rw [if_pos hb, if_pos rfl, gd_t i6, Ok_bd]
          refine (likes_spec C1 hd q (by omega)).mono ?_
          rintro y μ2 ⟨rfl, K2'⟩
          have K2 := K2'.q
          simp only [gd_t i6, nI_clamp (show r < 2 ^ 31 by omega), Nat.reduceAdd]
          rw [Ok_vl, Ok_vl, nI_1, Ok_some]
          refine Or.inl ⟨rfl, q, rfl, ⟨(K1.1.trans K2.1).sI (by decide), K2.2.of (by funext j; rw [sI_i, if_neg (by omega)]) rfl⟩, fun r' hr' hb' => ?_⟩
          dsimp only
          rw [sI_i]
          show _ = sumN i _ + _
          dsimp only
          by_cases er : r' = r
          · subst er
            rw [if_pos ⟨rfl, rfl⟩, hsum r' hr' hb', if_pos e]
            rfl
          · have : μ2.1 120 r' = μ1.1 120 r' := K2'.1.i (by decide) r'
            rw [if_neg (fun w => er w.2), if_neg (fun w => er ((nI_eq (by omega) (by omega)).mp (w.symm.trans e))), Int32.add_zero, this, hsum r' hr' hb']
        · rw [if_neg hb, if_neg (by decide), Ok_vl, nI_1, Ok_some]
          refine Or.inl (stay fun r' hr' hb' z => ?_)
          rw [(nI_eq (by omega) (by omega)).mp (z.symm.trans e)] at hb'
          exact hb hb'
    · rw [if_pos (nI_le q (by omega)), Ok_some]
      have : i = V.1 2 := by omega
      subst this
      exact Or.inr ⟨0, rfl, K1, hsum⟩
  · rintro u ⟨x, μ1⟩ ⟨K1, hsum⟩
    dsimp only at K1 hsum ⊢
    have C1 := K1.crs C
    rw [Ok_vl, C1.2.2.2.2.1.2.2.1, gd_t (kd2 hh), told0 C1.2.2.1, bd_some, Ok_bd]
    refine Ok.mono (Q := fun u (q : Int32 × Int32 × fMem) => q.1 = oI (seatS V g ts S d) ∧ q.2.2 = μ1) (Ok_lp (V.1 0) (fun i (q : Int32 × Int32 × fMem) => q.2.1 = nI i ∧ q.1 = oI (bst (fun r => nbit (S 5 0) r) (fun a b => likeR V g ts S d a < likeR V g ts S d b) i) ∧ q.2.2 = μ1) (by omega) ⟨rfl, rfl, rfl⟩ ?_) ?_
    · rintro i ⟨b, x, μ2⟩ hi ⟨hx, hb, hm⟩
      dsimp only at hx hb hm ⊢
      subst hx hm
      unfold f_X0_seat_L98
      rcases Nat.lt_or_ge i (V.1 0) with q | q
      · rw [if_neg (nI_ge q (by omega)), Ok_vl, C1.2.2.2.2.1.2.2.2.1, gd_t (kd7 hz), isRoped_eq, bd_some, C1.2.2.2.1.2.2.2.2.2.1]
        have un : bst (fun r => nbit (S 5 0) r) (fun a b => likeR V g ts S d a < likeR V g ts S d b) (i + 1) = match bst (fun r => nbit (S 5 0) r) (fun a b => likeR V g ts S d a < likeR V g ts S d b) i with
          | none => if nbit (S 5 0) i then some i else none
          | some b => if nbit (S 5 0) i ∧ likeR V g ts S d b < likeR V g ts S d i then some i else some b := rfl
        rw [un]
        by_cases ho : nbit (S 5 0) i
        · rw [if_pos ho, if_pos rfl]
          cases e : bst (fun r => nbit (S 5 0) r) (fun a b => likeR V g ts S d a < likeR V g ts S d b) i with
          | none =>
            rw [e] at hb
            rw [show b = -1 from hb, if_pos rfl, Ok_vl, nI_1, Ok_some]
            refine Or.inl ⟨rfl, q, rfl, ?_, rfl⟩
            show nI i = oI (if _ then _ else _)
            rw [if_pos ho]
            rfl
          | some a =>
            rw [e] at hb
            obtain ⟨ha, hao⟩ := bst_ok e
            have hb : b = nI a := hb
            subst hb
            rw [if_neg (nI_nm1 (n := a) (by omega))]
            simp only [gd_t (show ixo (nI i) 6 from ixN (by omega) (by omega)), gd_t (show ixo (nI a) 6 from ixN (by omega) (by omega)), nI_clamp (show i < 2 ^ 31 by omega), nI_clamp (show a < 2 ^ 31 by omega), Nat.reduceAdd, hsum i (by omega) ho, hsum a (by omega) hao]
            by_cases hl : likeR V g ts S d i ≤ likeR V g ts S d a
            · rw [if_pos hl, Ok_vl, nI_1, Ok_some]
              refine Or.inl ⟨rfl, q, rfl, ?_, rfl⟩
              show nI a = oI (if _ then _ else _)
              rw [if_neg (fun z => Int32.not_lt.mpr hl z.2)]
              rfl
            · rw [if_neg hl, Ok_vl, nI_1, Ok_some]
              refine Or.inl ⟨rfl, q, rfl, ?_, rfl⟩
              show nI i = oI (if _ then _ else _)
              rw [if_pos ⟨ho, Int32.not_le.mp hl⟩]
              rfl
        · rw [if_neg ho, if_neg (by decide), Ok_vl, nI_1, Ok_some]
          refine Or.inl ⟨rfl, q, rfl, ?_, rfl⟩
          dsimp only
          rw [hb]
          cases bst (fun r => nbit (S 5 0) r) (fun a b => likeR V g ts S d a < likeR V g ts S d b) i with
          | none => dsimp only; rw [if_neg ho]
          | some a => dsimp only; rw [if_neg (fun z => ho z.1)]
      · rw [if_pos (nI_le q (by omega)), Ok_some]
        have : i = V.1 0 := by omega
        subst this
        exact Or.inr ⟨0, rfl, hb, rfl⟩
    · rintro u ⟨b, x, μ2⟩ ⟨hb, hm⟩
      dsimp only at hb hm ⊢
      subst hm
      rw [Ok_some]
      exact ⟨hb, K1⟩
end Seat
