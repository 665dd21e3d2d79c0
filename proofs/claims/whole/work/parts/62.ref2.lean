/-! the reference's Mondays -/
def Px (x k j : Nat) : Prop := (203 ≤ k ∧ k ≤ 205 ∧ j = x) ∨ (206 ≤ k ∧ k ≤ 208 ∧ 8 * x ≤ j ∧ j < 8 * x + 8) ∨ (209 ≤ k ∧ k ≤ 210 ∧ 6 * x ≤ j ∧ j < 6 * x + 6)
def AX (x k j : Nat) : Prop := (k = 181 ∧ j = 36) ∨ Px x k j
abbrev KX (x : Nat) (ν ν' : fMem) : Prop := Kx (AX x) B0 ν ν'
def abO (tw ti : Int32) : Int32 := if tw = 2 then ti else -1
def alO (tw : Int32) : Int32 := if tw = 3 then 1 else 0
section Ref2
variable {ν : fMem} {V : HV} {x : Nat} {S : SV} {g : Int32} {ts : Nat → Int32} {tw ti : Int32}
theorem likingFor_spec (M : Mrs ν V x S g ts tw ti) {d r : Nat} (hd : d < V.1 3) (hr : r < 6) : Ok (f_X11_likingFor 181 (nI x) (nI d) (nI r) ν) (fun y ν' => y = likeR V g ts S d r ∧ KM ν ν') := by
  have h8 : V.1 2 ≤ 8 := M.1.2.2.1
  have hx := M.2.2.2.2.2
  unfold f_X11_likingFor
  rw [Ok_bd]
  refine Ok.mono (Q := fun u (q : Int32 × Int32 × fMem) => q.1 = likeR V g ts S d r ∧ KM ν q.2.2) (Ok_lp (V.1 2) (fun i (q : Int32 × Int32 × fMem) => q.2.1 = nI i ∧ q.1 = (sumN i fun t => if S 0 t = nI r then lkS V g ts S d t r else 0) ∧ KM ν q.2.2) (by omega) ⟨rfl, rfl, Kx.rfl'⟩ ?_) ?_
  · rintro i ⟨n, y, ν1⟩ hi ⟨hy, hn, K1⟩
    dsimp only at hy hn K1 ⊢
    subst hy hn
    have M1 := M.km K1
    unfold f_X11_likingFor_L6
    simp only [Nat.reduceAdd]
    rw [M1.2.2.1.1 2 (by omega)]
    rcases Nat.lt_or_ge i (V.1 2) with q | q
    · rw [if_neg (nI_ge q (by omega)), isHung_eq M1 q, bd_some]
      have hS := M1.2.2.2.1.1 i q
      have un : ∀ v, (if S 0 i = nI r then lkS V g ts S d i r else 0) = v → sumN (i + 1) (fun t => if S 0 t = nI r then lkS V g ts S d t r else 0) = sumN i (fun t => if S 0 t = nI r then lkS V g ts S d t r else 0) + v := by
        rintro v rfl; rfl
      by_cases c : tw = 5 ∧ nI i = ti
      · rw [if_pos c] at hS
        rw [if_pos c, if_pos rfl, Ok_vl, nI_1, Ok_some]
        refine Or.inl ⟨rfl, q, rfl, ?_, K1⟩
        dsimp only
        rw [un 0 (if_neg (by rw [← hS]; exact fun z => nI_nm1 (n := r) (by omega) z.symm)), Int32.add_zero]
      · rw [if_neg c] at hS
        rw [if_neg c, if_neg (by decide), e8x, gd_t (ixN (by omega) (by omega)), nI_clamp (by omega), hS]
        by_cases a : S 0 i = nI r
        · rw [if_pos a, Ok_bd]
          refine (likingOf_spec M1 hd q hr a).mono ?_
          rintro y ν2 ⟨rfl, K2⟩
          rw [Ok_vl, Ok_vl, nI_1, Ok_some]
          exact Or.inl ⟨rfl, q, rfl, (un _ (if_pos a)).symm, K1.trans K2⟩
        · rw [if_neg a, Ok_vl, nI_1, Ok_some]
          refine Or.inl ⟨rfl, q, rfl, ?_, K1⟩
          dsimp only
          rw [un 0 (if_neg a), Int32.add_zero]
    · rw [if_pos (nI_le q (by omega)), Ok_some]
      have : i = V.1 2 := by omega
      subst this
      exact Or.inr ⟨0, rfl, rfl, K1⟩
  · rintro u ⟨n, y, ν1⟩ ⟨hn, K1⟩
    exact Ok_some.mpr ⟨hn, K1⟩
theorem isOpen_eq (M : Mrs ν V x S g ts tw ti) {r : Nat} (hr : r < 6) : f_X11_isOpen 181 (nI x) (nI r) ν = some ((if nbit (S 5 0) r then 1 else 0), ν) := by
  obtain ⟨o1, -⟩ := M.2.2.2.2.1
  have hx := M.2.2.2.2.2
  have h5 := M.2.2.2.1.2.2.2.2.2.1
  unfold f_X11_isOpen
  simp only [Nat.reduceAdd]
  rw [o1]
  by_cases c : tw = 1
  · rw [if_pos c] at h5 ⊢
    rw [gd_t (Or.inr rfl), ← h5, if_pos (show nbit 0 r from Int32.zero_and)]
  · rw [if_neg c] at h5 ⊢
    rw [gd_t (ixN hx (by omega)), nI_clamp (by omega), h5]
    by_cases b : nbit (S 5 0) r
    · rw [if_pos ((shr_bit (by omega)).mpr b), gd_t (Or.inr rfl), if_pos b]
    · rw [if_neg (fun z => b ((shr_bit (by omega)).mp z)), gd_t (Or.inl rfl), if_neg b]
theorem seatOf_spec (M : Mrs ν V x S g ts tw ti) {d : Nat} (hd : d < V.1 3) : Ok (f_X11_seatOf 181 (nI x) (nI d) ν) (fun y ν' => y = oI (seatS V g ts S d) ∧ KM ν ν') := by
  have hR6 : V.1 0 ≤ 6 := M.1.1
  unfold f_X11_seatOf
  rw [Ok_bd]
  refine Ok.mono (Q := fun u (q : Int32 × Int32 × Int32 × fMem) => q.1 = oI (seatS V g ts S d) ∧ KM ν q.2.2.2) (Ok_lp (V.1 0) (fun i (q : Int32 × Int32 × Int32 × fMem) => q.2.2.1 = nI i ∧ KM ν q.2.2.2 ∧ q.1 = oI (bst (fun r => nbit (S 5 0) r) (fun a b => likeR V g ts S d a < likeR V g ts S d b) i) ∧ ∀ a, bst (fun r => nbit (S 5 0) r) (fun a b => likeR V g ts S d a < likeR V g ts S d b) i = some a → q.2.1 = likeR V g ts S d a) (by omega) ⟨rfl, Kx.rfl', rfl, fun a q => by cases q⟩ ?_) ?_
  · rintro i ⟨b, l, y, ν1⟩ hi ⟨hy, K1, hb, hl⟩
    dsimp only at hy K1 hb hl ⊢
    subst hy
    have M1 := M.km K1
    unfold f_X11_seatOf_L8 f_X11_seatOf_j57
    simp only [Nat.reduceAdd]
    rw [M1.2.2.1.1 0 (by omega)]
    rcases Nat.lt_or_ge i (V.1 0) with q | q
    · have un : bst (fun r => nbit (S 5 0) r) (fun a b => likeR V g ts S d a < likeR V g ts S d b) (i + 1) = match bst (fun r => nbit (S 5 0) r) (fun a b => likeR V g ts S d a < likeR V g ts S d b) i with
          | none => if nbit (S 5 0) i then some i else none
          | some b => if nbit (S 5 0) i ∧ likeR V g ts S d b < likeR V g ts S d i then some i else some b := rfl
      rw [un, if_neg (nI_ge q (by omega)), isOpen_eq M1 (by omega), bd_some]
      by_cases ho : nbit (S 5 0) i
      · rw [if_pos ho, if_neg (by decide), Ok_bd]
        refine (likingFor_spec M1 hd (by omega)).mono ?_
        rintro y ν2 ⟨rfl, K2⟩
        have K := K1.trans K2
        cases e : bst (fun r => nbit (S 5 0) r) (fun a b => likeR V g ts S d a < likeR V g ts S d b) i with
        | none =>
          rw [e] at hb
          rw [show b = -1 from hb, if_pos rfl, Ok_vl, nI_1, Ok_some]
          refine Or.inl ⟨rfl, q, rfl, K, ?_, ?_⟩
          · dsimp only; rw [if_pos ho]; rfl
          · dsimp only; rw [if_pos ho]; intro a ha; cases ha; rfl
        | some a =>
          rw [e] at hb
          have hl := hl a e
          obtain ⟨ha, -⟩ := bst_ok e
          have hb : b = nI a := hb
          subst hb hl
          rw [if_neg (nI_nm1 (n := a) (by omega))]
          by_cases hlt : likeR V g ts S d a < likeR V g ts S d i
          · rw [if_pos hlt, Ok_vl, nI_1, Ok_some]
            refine Or.inl ⟨rfl, q, rfl, K, ?_, ?_⟩
            · dsimp only; rw [if_pos ⟨ho, hlt⟩]; rfl
            · dsimp only; rw [if_pos ⟨ho, hlt⟩]; intro c hc; cases hc; rfl
          · rw [if_neg hlt, Ok_vl, nI_1, Ok_some]
            refine Or.inl ⟨rfl, q, rfl, K, ?_, ?_⟩
            · dsimp only; rw [if_neg (fun z => hlt z.2)]; rfl
            · dsimp only; rw [if_neg (fun z => hlt z.2)]; intro c hc; cases hc; rfl
      · rw [if_neg ho, if_pos rfl, Ok_vl, nI_1, Ok_some]
        have e2 : (match bst (fun r => nbit (S 5 0) r) (fun a b => likeR V g ts S d a < likeR V g ts S d b) i with
          | none => if nbit (S 5 0) i then some i else none
          | some b => if nbit (S 5 0) i ∧ likeR V g ts S d b < likeR V g ts S d i then some i else some b) = bst (fun r => nbit (S 5 0) r) (fun a b => likeR V g ts S d a < likeR V g ts S d b) i := by
          cases bst (fun r => nbit (S 5 0) r) (fun a b => likeR V g ts S d a < likeR V g ts S d b) i with
          | none => dsimp only; rw [if_neg ho]
          | some a => dsimp only; rw [if_neg (fun z => ho z.1)]
        rw [e2]
        exact Or.inl ⟨rfl, q, rfl, K1, hb, hl⟩
    · rw [if_pos (nI_le q (by omega)), Ok_some]
      have : i = V.1 0 := by omega
      subst this
      exact Or.inr ⟨0, rfl, hb, K1⟩
  · rintro u ⟨b, l, y, ν1⟩ ⟨hb, K1⟩
    exact Ok_some.mpr ⟨hb, K1⟩
theorem doesCome_spec (M : Mrs ν V x S g ts tw ti) {d : Nat} (hd : d < V.1 3) : Ok (f_X11_doesCome 181 (nI x) (nI d) ν) (fun y ν' => y = (if comB V g ts (S 6 0) (abO tw ti) (alO tw) d = true then 1 else 0) ∧ KM ν ν') := by
  have h6 : V.1 3 ≤ 6 := M.1.2.2.2.1
  obtain ⟨o1, o2, -⟩ := M.2.2.2.2.1
  have j70 : ∀ ν1, KM ν ν1 → Ok (f_X11_doesCome_j70 181 (nI x) (nI d) ν1) (fun y ν' => y = (if V.2.1 6 d ≤ g then 1 else 0) ∧ KM ν ν') := by
    intro ν1 K1
    have M1 := M.km K1
    unfold f_X11_doesCome_j70
    rw [gaugeIn_at M1 rfl, bd_some, gd_t (ixN (by omega) (by omega)), nI_clamp (by omega)]
    simp only [Nat.reduceAdd]
    rw [(M1.2.2.1.2.2.2.1 d hd).2.2.2]
    by_cases c : g < V.2.1 6 d
    · rw [if_pos c, gd_t (Or.inl rfl), Ok_some, if_neg (Int32.not_le.mpr c)]; exact ⟨rfl, K1⟩
    · rw [if_neg c, gd_t (Or.inr rfl), Ok_some, if_pos (Int32.not_lt.mp c)]; exact ⟨rfl, K1⟩
  have j18 : ¬ tw = 3 → Ok (f_X11_doesCome_j18 181 (nI x) (nI d) ν) (fun y ν' => y = (if cmv V d (ts d) g (S 6 0) = true then 1 else 0) ∧ KM ν ν') := by
    intro h3
    unfold f_X11_doesCome_j18
    rw [o1, if_neg h3, callsD M hd, bd_some]
    have M1 := M.km (nmM_km (n := nmD V d (ts d) g (S 6 0)))
    have hn := nmM_at (μ := ν) (n := nmD V d (ts d) g (S 6 0))
    have K0 := nmM_km (μ := ν) (n := nmD V d (ts d) g (S 6 0))
    generalize nmM ν (nmD V d (ts d) g (S 6 0)) = ν1 at M1 hn K0 ⊢
    rw [show f_X11_hasLaw 181 2 = f_X11_hasLaw 181 (nI 2) from rfl, hasLaw_spec (mlaw M1 (k := 2) (by omega)) (by omega), bd_some]
    have fin : ∀ ν2, KM ν ν2 → ev (V.2.2.2 2) (nmD V d (ts d) g (S 6 0)) = none → Ok (f_X11_doesCome_j70 181 (nI x) (nI d) ν2) (fun y ν' => y = (if cmv V d (ts d) g (S 6 0) = true then 1 else 0) ∧ KM ν ν') := by
      intro ν2 K2 he
      refine (j70 ν2 K2).mono ?_
      rintro y ν3 ⟨rfl, K3⟩
      refine ⟨?_, K3⟩
      unfold cmv
      rw [he]
      simp only [decide_eq_true_eq]
    by_cases hne : V.2.2.2 2 = []
    · rw [if_pos hne, if_pos rfl]
      exact fin ν1 K0 (by rw [hne]; rfl)
    · rw [if_neg hne, if_neg (by decide), Ok_bd]
      refine (goes_at M1 (k := 2) (by omega) hn hne).mono ?_
      rintro r ν2 ⟨K, q⟩
      rcases q with ⟨v, e, rfl, hv⟩ | ⟨e, rfl⟩
      · rw [if_neg (by decide)]
        simp only [Nat.reduceAdd, lgz, hv]
        unfold cmv
        rw [e]
        simp only [decide_eq_true_eq]
        by_cases z : v = 0
        · rw [if_pos z, gd_t (Or.inl rfl), Ok_some, if_neg (fun w => w z)]; exact ⟨rfl, K0.trans K⟩
        · rw [if_neg z, gd_t (Or.inr rfl), Ok_some, if_pos z]; exact ⟨rfl, K0.trans K⟩
      · rw [if_pos rfl]
        exact fin ν2 (K0.trans K) e
  have all : Ok (f_X11_doesCome_j18 181 (nI x) (nI d) ν) (fun y ν' => y = (if (decide (¬ alO tw = 0) || cmv V d (ts d) g (S 6 0)) = true then 1 else 0) ∧ KM ν ν') := by
    by_cases h3 : tw = 3
    · unfold f_X11_doesCome_j18 alO
      rw [o1, if_pos h3, gd_t (Or.inr rfl), Ok_some, if_pos h3]
      exact ⟨by simp, Kx.rfl'⟩
    · refine (j18 h3).mono ?_
      rintro y ν3 ⟨rfl, K3⟩
      refine ⟨?_, K3⟩
      unfold alO
      rw [if_neg h3]
      simp
  unfold f_X11_doesCome comB abO
  rw [o1, o2]
  by_cases h2 : tw = 2
  · rw [if_pos h2, if_pos h2]
    by_cases hi : nI d = ti
    · rw [if_pos hi, gd_t (Or.inl rfl), Ok_some]
      exact ⟨by simp [hi], Kx.rfl'⟩
    · rw [if_neg hi]
      refine all.mono ?_
      rintro y ν3 ⟨rfl, K3⟩
      exact ⟨by simp [hi], K3⟩
  · rw [if_neg h2, if_neg h2]
    refine all.mono ?_
    rintro y ν3 ⟨rfl, K3⟩
    exact ⟨by simp [nI_nm1 (show d < 2 ^ 31 by omega)], K3⟩
theorem isDoor_eq (mH : MH ν V) (hV : HW V) {a b : Nat} (ha : a < 6) (hb : b < 6) : f_X11_isDoor 181 (nI a) (nI b) ν = some ((if V.2.2.1 a b = true then 1 else 0), ν) := by
  have h9 : V.1 1 ≤ 9 := hV.2.1
  have hD := mH.2.2.2.2.2.2.2.2.1 a b ha hb
  have key : Ok (f_X11_isDoor 181 (nI a) (nI b) ν) (fun y ν' => y = (if V.2.2.1 a b = true then 1 else 0) ∧ ν' = ν) := by
    unfold f_X11_isDoor
    rw [Ok_bd]
    refine Ok.mono (Q := fun u (q : Int32 × fMem) => q.2 = ν ∧ ((u = 0 ∧ ¬ V.2.2.1 a b = true) ∨ (¬ u = 0 ∧ V.2.2.1 a b = true))) (Ok_lp (V.1 1) (fun i (q : Int32 × fMem) => q.1 = nI i ∧ q.2 = ν ∧ ∀ k, k < i → ¬ ((ν.1 185 k = nI a ∧ ν.1 186 k = nI b) ∨ (ν.1 185 k = nI b ∧ ν.1 186 k = nI a))) (by omega) ⟨rfl, rfl, fun k h => by omega⟩ ?_) ?_
    · rintro i ⟨y, ν1⟩ hi ⟨hy, hm, hn⟩
      dsimp only at hy hm hn ⊢
      subst hy hm
      unfold f_X11_isDoor_L2 f_X11_isDoor_j32
      simp only [Nat.reduceAdd]
      rw [mH.1 1 (by omega)]
      rcases Nat.lt_or_ge i (V.1 1) with q | q
      · have yes : ((ν1.1 185 i = nI a ∧ ν1.1 186 i = nI b) ∨ (ν1.1 185 i = nI b ∧ ν1.1 186 i = nI a)) → V.2.2.1 a b = true := fun z => hD.mpr ⟨i, q, z⟩
        have no : ¬ ((ν1.1 185 i = nI a ∧ ν1.1 186 i = nI b) ∨ (ν1.1 185 i = nI b ∧ ν1.1 186 i = nI a)) → ∀ k, k < i + 1 → ¬ ((ν1.1 185 k = nI a ∧ ν1.1 186 k = nI b) ∨ (ν1.1 185 k = nI b ∧ ν1.1 186 k = nI a)) := by
          intro z k hk
          by_cases e : k = i
          · subst e; exact z
          · exact hn k (by omega)
        simp only [if_neg (nI_ge q (show V.1 1 < 2 ^ 31 by omega)), gd_t (show ixo (nI i) 18 from ixN (by omega) (by omega)), nI_clamp (show i < 2 ^ 31 by omega)]
        by_cases c1 : ν1.1 185 i = nI a
        · by_cases c2 : ν1.1 186 i = nI b
          · rw [if_pos c1, if_pos c2, Ok_some]
            exact Or.inr ⟨1, rfl, rfl, Or.inr ⟨by decide, yes (Or.inl ⟨c1, c2⟩)⟩⟩
          · rw [if_pos c1, if_neg c2]
            by_cases c3 : ν1.1 185 i = nI b
            · by_cases c4 : ν1.1 186 i = nI a
              · rw [if_pos c3, if_pos c4, Ok_some]
                exact Or.inr ⟨1, rfl, rfl, Or.inr ⟨by decide, yes (Or.inr ⟨c3, c4⟩)⟩⟩
              · rw [if_pos c3, if_neg c4, Ok_vl, nI_1, Ok_some]
                exact Or.inl ⟨rfl, q, rfl, rfl, no (fun z => z.elim (fun z => c2 z.2) (fun z => c4 z.2))⟩
            · rw [if_neg c3, Ok_vl, nI_1, Ok_some]
              exact Or.inl ⟨rfl, q, rfl, rfl, no (fun z => z.elim (fun z => c2 z.2) (fun z => c3 z.1))⟩
        · rw [if_neg c1]
          by_cases c3 : ν1.1 185 i = nI b
          · by_cases c4 : ν1.1 186 i = nI a
            · rw [if_pos c3, if_pos c4, Ok_some]
              exact Or.inr ⟨1, rfl, rfl, Or.inr ⟨by decide, yes (Or.inr ⟨c3, c4⟩)⟩⟩
            · rw [if_pos c3, if_neg c4, Ok_vl, nI_1, Ok_some]
              exact Or.inl ⟨rfl, q, rfl, rfl, no (fun z => z.elim (fun z => c1 z.1) (fun z => c4 z.2))⟩
          · rw [if_neg c3, Ok_vl, nI_1, Ok_some]
            exact Or.inl ⟨rfl, q, rfl, rfl, no (fun z => z.elim (fun z => c1 z.1) (fun z => c3 z.1))⟩
      · rw [if_pos (nI_le q (by omega)), Ok_some]
        have : i = V.1 1 := by omega
        subst this
        refine Or.inr ⟨0, rfl, rfl, Or.inl ⟨rfl, fun z => ?_⟩⟩
        obtain ⟨k, hk, w⟩ := hD.mp z
        exact hn k hk w
    · rintro u ⟨y, ν1⟩ ⟨hm, hq⟩
      dsimp only at hm hq ⊢
      subst hm
      rcases hq with ⟨rfl, hn⟩ | ⟨hu, hb⟩
      · rw [if_pos rfl, gd_t (Or.inl rfl), Ok_some, if_neg hn]; exact ⟨rfl, rfl⟩
      · rw [if_neg hu, gd_t (Or.inr rfl), Ok_some, if_pos hb]; exact ⟨rfl, rfl⟩
  obtain ⟨y, ν', e, rfl, rfl⟩ := key
  exact e
theorem nextToM_eq (mH : MH ν V) (hV : HW V) {r : Nat} (hr : r < 6) : f_X11_nextTo 181 (nI r) ν = some (oI (nextS V r), ν) := by
  have hR6 : V.1 0 ≤ 6 := hV.1
  have key : Ok (f_X11_nextTo 181 (nI r) ν) (fun y ν' => y = oI (nextS V r) ∧ ν' = ν) := by
    unfold f_X11_nextTo
    rw [Ok_bd]
    refine Ok.mono (Q := fun u (q : Int32 × fMem) => q.2 = ν ∧ ((u = 0 ∧ nextS V r = none) ∨ (u = 1 ∧ ∃ b, nextS V r = some b ∧ q.1 = nI b))) (Ok_lp (V.1 0) (fun i (q : Int32 × fMem) => q.1 = nI i ∧ q.2 = ν ∧ fnd (fun b => V.2.2.1 r b) i = none) (by omega) ⟨rfl, rfl, rfl⟩ ?_) ?_
    · rintro i ⟨y, ν1⟩ hi ⟨hy, hm, hn⟩
      dsimp only at hy hm hn ⊢
      subst hy hm
      unfold f_X11_nextTo_L2
      simp only [Nat.reduceAdd]
      rw [mH.1 0 (by omega)]
      rcases Nat.lt_or_ge i (V.1 0) with q | q
      · rw [if_neg (nI_ge q (by omega)), isDoor_eq mH hV hr (by omega), bd_some]
        by_cases hl : V.2.2.1 r i = true
        · rw [if_pos hl, if_neg (by decide), Ok_some]
          exact Or.inr ⟨1, rfl, rfl, Or.inr ⟨rfl, i, fnd_le (a := 0) hn hl _ q, rfl⟩⟩
        · rw [if_neg hl, if_pos rfl, Ok_vl, nI_1, Ok_some]
          refine Or.inl ⟨rfl, q, rfl, rfl, ?_⟩
          unfold fnd
          rw [hn]
          simp only [hl, if_false]
          rfl
      · rw [if_pos (nI_le q (by omega)), Ok_some]
        have : i = V.1 0 := by omega
        subst this
        exact Or.inr ⟨0, rfl, rfl, Or.inl ⟨rfl, hn⟩⟩
    · rintro u ⟨y, ν1⟩ ⟨hm, hq⟩
      dsimp only at hm hq ⊢
      subst hm
      rcases hq with ⟨rfl, hn⟩ | ⟨rfl, b, hb, rfl⟩
      · rw [if_pos rfl, Ok_some, hn]; exact ⟨rfl, rfl⟩
      · rw [if_neg (by decide), Ok_some, hb]; exact ⟨rfl, rfl⟩
  obtain ⟨a, b, e, rfl, rfl⟩ := key
  exact e
theorem worst_spec (M : Mrs ν V x S g ts tw ti) {d r : Nat} (hd : d < V.1 3) (hr : r < 6) : Ok (lpn (fun (q : Int32 × Int32 × Int32 × fMem) => f_X11_visits_L52 181 (nI x) (nI d) (nI r) q.1 q.2.1 q.2.2.1 q.2.2.2) fuel ((-1 : Int32), (0 : Int32), (0 : Int32), ν)) (fun u q => q.1 = oI (lstS V g ts S d r) ∧ (∀ a, lstS V g ts S d r = some a → q.2.1 = lkS V g ts S d a r) ∧ KM ν q.2.2.2) := by
  have h8 : V.1 2 ≤ 8 := M.1.2.2.1
  have hx := M.2.2.2.2.2
  refine Ok_lp (V.1 2) (fun i (q : Int32 × Int32 × Int32 × fMem) => q.2.2.1 = nI i ∧ KM ν q.2.2.2 ∧ q.1 = oI (bst (fun t => S 0 t = nI r) (fun a b => lkS V g ts S d b r < lkS V g ts S d a r) i) ∧ ∀ a, bst (fun t => S 0 t = nI r) (fun a b => lkS V g ts S d b r < lkS V g ts S d a r) i = some a → q.2.1 = lkS V g ts S d a r) (by omega) ⟨rfl, Kx.rfl', rfl, fun a q => by cases q⟩ ?_
  rintro i ⟨b, l, y, ν1⟩ hi ⟨hy, K1, hb, hl⟩
  dsimp only at hy K1 hb hl ⊢
  subst hy
  have M1 := M.km K1
  unfold f_X11_visits_L52 f_X11_visits_j117
  simp only [Nat.reduceAdd]
  rw [M1.2.2.1.1 2 (by omega)]
  rcases Nat.lt_or_ge i (V.1 2) with q | q
  · have un : bst (fun t => S 0 t = nI r) (fun a b => lkS V g ts S d b r < lkS V g ts S d a r) (i + 1) = match bst (fun t => S 0 t = nI r) (fun a b => lkS V g ts S d b r < lkS V g ts S d a r) i with
          | none => if S 0 i = nI r then some i else none
          | some b => if S 0 i = nI r ∧ lkS V g ts S d i r < lkS V g ts S d b r then some i else some b := rfl
    have e2 : ¬ S 0 i = nI r → (match bst (fun t => S 0 t = nI r) (fun a b => lkS V g ts S d b r < lkS V g ts S d a r) i with
          | none => if S 0 i = nI r then some i else none
          | some b => if S 0 i = nI r ∧ lkS V g ts S d i r < lkS V g ts S d b r then some i else some b) = bst (fun t => S 0 t = nI r) (fun a b => lkS V g ts S d b r < lkS V g ts S d a r) i := by
      intro hat
      cases bst (fun t => S 0 t = nI r) (fun a b => lkS V g ts S d b r < lkS V g ts S d a r) i with
      | none => dsimp only; rw [if_neg hat]
      | some a => dsimp only; rw [if_neg (fun z => hat z.1)]
    rw [un, if_neg (nI_ge q (by omega)), isHung_eq M1 q, bd_some]
    have hS := M1.2.2.2.1.1 i q
    by_cases c : tw = 5 ∧ nI i = ti
    · rw [if_pos c] at hS
      rw [if_pos c, if_pos rfl, Ok_vl, nI_1, Ok_some, e2 (by rw [← hS]; exact fun z => nI_nm1 (n := r) (by omega) z.symm)]
      exact Or.inl ⟨rfl, q, rfl, K1, hb, hl⟩
    · rw [if_neg c] at hS
      rw [if_neg c, if_neg (by decide), e8x, gd_t (ixN (by omega) (by omega)), nI_clamp (by omega), hS]
      by_cases hat : S 0 i = nI r
      · rw [if_pos hat, Ok_bd]
        refine (likingOf_spec M1 hd q hr hat).mono ?_
        rintro y ν2 ⟨rfl, K2⟩
        have K := K1.trans K2
        cases e : bst (fun t => S 0 t = nI r) (fun a b => lkS V g ts S d b r < lkS V g ts S d a r) i with
        | none =>
          rw [e] at hb
          rw [show b = -1 from hb, if_pos rfl, Ok_vl, nI_1, Ok_some]
          refine Or.inl ⟨rfl, q, rfl, K, ?_, ?_⟩
          · dsimp only; rw [if_pos hat]; rfl
          · dsimp only; rw [if_pos hat]; intro a ha; cases ha; rfl
        | some a =>
          rw [e] at hb
          have hl := hl a e
          obtain ⟨ha, -⟩ := bst_ok e
          have hb : b = nI a := hb
          subst hb hl
          rw [if_neg (nI_nm1 (n := a) (by omega))]
          by_cases hlt : lkS V g ts S d i r < lkS V g ts S d a r
          · rw [if_pos hlt, Ok_vl, nI_1, Ok_some]
            refine Or.inl ⟨rfl, q, rfl, K, ?_, ?_⟩
            · dsimp only; rw [if_pos ⟨hat, hlt⟩]; rfl
            · dsimp only; rw [if_pos ⟨hat, hlt⟩]; intro c hc; cases hc; rfl
          · rw [if_neg hlt, Ok_vl, nI_1, Ok_some]
            refine Or.inl ⟨rfl, q, rfl, K, ?_, ?_⟩
            · dsimp only; rw [if_neg (fun z => hlt z.2)]; rfl
            · dsimp only; rw [if_neg (fun z => hlt z.2)]; intro c hc; cases hc; rfl
      · rw [if_neg hat, Ok_vl, nI_1, Ok_some, e2 hat]
        exact Or.inl ⟨rfl, q, rfl, K1, hb, hl⟩
  · rw [if_pos (nI_le q (by omega)), Ok_some]
    have : i = V.1 2 := by omega
    subst this
    exact Or.inr ⟨0, rfl, hb, hl, K1⟩
end Ref2
