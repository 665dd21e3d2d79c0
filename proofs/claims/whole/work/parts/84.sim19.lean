/-! the hanging all like best: what it comes to -/
section Sim19
def sumT : Nat → (Nat → Nat) → Nat
  | 0, _ => 0
  | n + 1, f => sumT n f + f n
theorem sumT_congr {f g : Nat → Nat} : ∀ {n : Nat}, (∀ i, i < n → f i = g i) → sumT n f = sumT n g
  | 0, _ => rfl
  | n + 1, h => by
    unfold sumT
    rw [sumT_congr (fun i hi => h i (by omega)), h n (by omega)]
theorem sumT_nI {f : Nat → Nat} {F : Nat → Int32} : ∀ {n : Nat}, (∀ i, i < n → F i = nI (f i)) → sumN n F = nI (sumT n f)
  | 0, _ => rfl
  | n + 1, h => by
    unfold sumN sumT
    rw [sumT_nI (fun i hi => h i (by omega)), h n (by omega), nI_add]
theorem sumT_0 {f : Nat → Nat} : ∀ {n : Nat}, (∀ i, i < n → f i = 0) → sumT n f = 0
  | 0, _ => rfl
  | n + 1, h => by
    unfold sumT
    rw [sumT_0 (fun i hi => h i (by omega)), h n (by omega)]
theorem sumT_add {f g : Nat → Nat} : ∀ n, sumT n (fun i => f i + g i) = sumT n f + sumT n g
  | 0 => rfl
  | n + 1 => by
    show sumT n (fun i => f i + g i) + (f n + g n) = sumT n f + f n + (sumT n g + g n)
    rw [sumT_add n]; omega
theorem sumT_ext {f : Nat → Nat} {n : Nat} : ∀ {m : Nat}, n ≤ m → (∀ i, n ≤ i → i < m → f i = 0) → sumT m f = sumT n f
  | 0, h, _ => by rw [show n = 0 by omega]
  | m + 1, h, hp => by
    by_cases q : n = m + 1
    · rw [q]
    · show sumT m f + f m = sumT n f
      rw [hp m (by omega) (by omega), sumT_ext (n := n) (by omega) (fun i a b => hp i a (by omega))]; omega
theorem sumT_le {f : Nat → Nat} {b : Nat} : ∀ n, (∀ i, i < n → f i ≤ b) → sumT n f ≤ b * n
  | 0, _ => Nat.le_refl _
  | n + 1, h => by
    have h1 := sumT_le n (fun i hi => h i (by omega))
    have h2 := h n (by omega)
    unfold sumT
    rw [Nat.mul_succ]
    omega
/-- the greatest of what is open -/
def mxO (op : Nat → Prop) [DecidablePred op] (f : Nat → Nat) : Nat → Nat
  | 0 => 0
  | r + 1 => if op r then max (mxO op f r) (f r) else mxO op f r
theorem mxO_succ {op : Nat → Prop} [DecidablePred op] {f : Nat → Nat} {r : Nat} : mxO op f (r + 1) = if op r then max (mxO op f r) (f r) else mxO op f r := rfl
theorem mxO_bst {op : Nat → Prop} [DecidablePred op] {lt : Nat → Nat → Prop} [DecidableRel lt] {f : Nat → Nat} : ∀ {n : Nat}, (∀ a b, a < n → b < n → (lt a b ↔ f a < f b)) → (match bst op lt n with | none => 0 | some r => f r) = mxO op f n
  | 0, _ => rfl
  | n + 1, h => by
    have ih := mxO_bst (n := n) (op := op) (lt := lt) (f := f) (fun a b ha hb => h a b (by omega) (by omega))
    have ub : bst op lt (n + 1) = match bst op lt n with
      | none => if op n then some n else none
      | some b => if op n ∧ lt b n then some n else some b := rfl
    rw [mxO_succ, ub, ← ih]
    cases e : bst op lt n with
    | none =>
      by_cases c : op n
      · simp only [c, if_true]; omega
      · simp only [c, if_false]
    | some b =>
      have hb := (bst_ok e).1
      have hl := h b n (by omega) (by omega)
      by_cases c : op n
      · by_cases c2 : lt b n
        · have := hl.mp c2
          simp only [c, c2, and_self, if_true]; omega
        · have : ¬ f b < f n := fun w => c2 (hl.mpr w)
          simp only [c, c2, and_false, if_false, if_true]; omega
      · simp only [c, false_and, if_false]
theorem mxO_put {op : Nat → Prop} [DecidablePred op] {f f' : Nat → Nat} {r : Nat} (ho : ∀ i, ¬ i = r → f' i = f i) (hr : f r ≤ f' r) : ∀ n, mxO op f' n = if op r ∧ r < n then max (mxO op f n) (f' r) else mxO op f n
  | 0 => by rw [if_neg (by omega)]; rfl
  | n + 1 => by
    have ih := mxO_put (op := op) ho hr n
    rw [mxO_succ, mxO_succ, ih]
    by_cases e : n = r
    · subst e
      by_cases c : op n
      · rw [if_pos c, if_pos c, if_neg (show ¬ (op n ∧ n < n) from fun w => by omega), if_pos (show op n ∧ n < n + 1 from ⟨c, by omega⟩)]; omega
      · rw [if_neg c, if_neg c, if_neg (show ¬ (op n ∧ n < n) from fun w => c w.1), if_neg (show ¬ (op n ∧ n < n + 1) from fun w => c w.1)]
    · rw [ho n e]
      by_cases c : op r
      · by_cases c2 : r < n
        · rw [if_pos (show op r ∧ r < n from ⟨c, c2⟩), if_pos (show op r ∧ r < n + 1 from ⟨c, by omega⟩)]
          by_cases c3 : op n
          · simp only [c3, if_true]; omega
          · simp only [c3, if_false]
        · rw [if_neg (show ¬ (op r ∧ r < n) from fun w => c2 w.2), if_neg (show ¬ (op r ∧ r < n + 1) from fun w => by omega)]
      · rw [if_neg (show ¬ (op r ∧ r < n) from fun w => c w.1), if_neg (show ¬ (op r ∧ r < n + 1) from fun w => c w.1)]
theorem mxO_congr {op : Nat → Prop} [DecidablePred op] {f g : Nat → Nat} : ∀ {n : Nat}, (∀ i, i < n → f i = g i) → mxO op f n = mxO op g n
  | 0, _ => rfl
  | n + 1, h => by
    unfold mxO
    rw [mxO_congr (fun i hi => h i (by omega)), h n (by omega)]
theorem mxO_le {op : Nat → Prop} [DecidablePred op] {f : Nat → Nat} {b : Nat} : ∀ n, (∀ i, i < n → f i ≤ b) → mxO op f n ≤ b
  | 0, _ => Nat.zero_le _
  | n + 1, h => by
    have h1 := mxO_le (op := op) n (fun i hi => h i (by omega))
    have h2 := h n (by omega)
    unfold mxO
    split <;> omega
section Defs
variable (V : HV) (g : Int32) (ts : Nat → Int32) (S : SV)
abbrev frN : Nat := min 4 (V.1 2)
def lkN (d t r : Nat) : Nat := (lkS V g ts S d t r).toNatClampNeg
def bsN (d r : Nat) : Nat := sumT (V.1 2) fun t => if frN V ≤ t ∧ S 0 t = nI r then lkN V g ts S d t r else 0
def smN (n : Nat) (c : Nat → Nat) (d r : Nat) : Nat := bsN V g ts S d r + sumT n fun t => if c t = r then lkN V g ts S d t r else 0
def pkN (n : Nat) (c : Nat → Nat) (d : Nat) : Nat := mxO (fun r => nbit (S 5 0) r) (smN V g ts S n c d) (V.1 0)
def lvN (c : Nat → Nat) : Nat := sumT (V.1 3) fun d => pkN V g ts S (frN V) c d
def cS (c : Nat → Nat) : SV := fun i j => if i = 0 ∧ j < frN V then nI (c j) else S i j
def alS (S' : SV) : Int32 := sumN (V.1 3) fun d => match seatS V g ts S' d with
  | none => 0
  | some r => likeR V g ts S' d r
end Defs
section Lemmas
variable {V : HV} {g : Int32} {ts : Nat → Int32} {S : SV}
theorem lkN_eq (hV : HW V) (hts : ∀ d, d < V.1 3 → Upto 9 (ts d)) {d t : Nat} (hd : d < V.1 3) (ht : t < V.1 2) (r : Nat) : lkS V g ts S d t r = nI (lkN V g ts S d t r) ∧ lkN V g ts S d t r ≤ 99 := by
  obtain ⟨j, hj, e⟩ := lkv_up hV (g := g) (mo := S 6 0) (wm := S 3 r) (d := d) ht (hts d hd)
  have e : lkS V g ts S d t r = nI j := e
  unfold lkN
  rw [e, nI_clamp (by omega)]
  exact ⟨rfl, hj⟩
theorem smN_le (hV : HW V) (hts : ∀ d, d < V.1 3 → Upto 9 (ts d)) {d : Nat} (hd : d < V.1 3) {n : Nat} (hn : n ≤ frN V) (c : Nat → Nat) (r : Nat) : smN V g ts S n c d r ≤ 99 * 16 := by
  have h8 : V.1 2 ≤ 8 := hV.2.2.1
  have h1 : bsN V g ts S d r ≤ 99 * V.1 2 := sumT_le _ (fun t ht => by
    split
    · exact (lkN_eq hV hts hd ht r).2
    · omega)
  have h2 : sumT n (fun t => if c t = r then lkN V g ts S d t r else 0) ≤ 99 * n := sumT_le _ (fun t ht => by
    split
    · exact (lkN_eq hV hts hd (by unfold frN at hn; omega) r).2
    · omega)
  unfold smN
  unfold frN at hn
  omega
theorem pkN_le (hV : HW V) (hts : ∀ d, d < V.1 3 → Upto 9 (ts d)) {d : Nat} (hd : d < V.1 3) {n : Nat} (hn : n ≤ frN V) (c : Nat → Nat) : pkN V g ts S n c d ≤ 99 * 16 := mxO_le _ (fun r _ => smN_le hV hts hd hn c r)
theorem lvN_le (hV : HW V) (hts : ∀ d, d < V.1 3 → Upto 9 (ts d)) (c : Nat → Nat) : lvN V g ts S c ≤ 99 * 16 * 6 := by
  have h6 : V.1 3 ≤ 6 := hV.2.2.2.1
  have := sumT_le (f := fun d => pkN V g ts S (frN V) c d) (b := 99 * 16) (V.1 3) (fun d hd => pkN_le hV hts hd (Nat.le_refl _) c)
  unfold lvN
  omega
theorem cS_o {c : Nat → Nat} {i j : Nat} (h : ¬ i = 0) : cS V S c i j = S i j := if_neg (fun w => h w.1)
theorem like_c (hV : HW V) (hts : ∀ d, d < V.1 3 → Upto 9 (ts d)) {c : Nat → Nat} (hc : ∀ i, i < frN V → c i < V.1 0) {d r : Nat} (hd : d < V.1 3) (hr : r < V.1 0) : likeR V g ts (cS V S c) d r = nI (smN V g ts S (frN V) c d r) := by
  have h6 : V.1 0 ≤ 6 := hV.1
  unfold likeR
  have e : ∀ t, t < V.1 2 → (if cS V S c 0 t = nI r then lkS V g ts (cS V S c) d t r else 0) = nI ((if frN V ≤ t ∧ S 0 t = nI r then lkN V g ts S d t r else 0) + (if t < frN V ∧ c t = r then lkN V g ts S d t r else 0)) := by
    intro t ht
    have el : lkS V g ts (cS V S c) d t r = nI (lkN V g ts S d t r) := by
      rw [← (lkN_eq hV hts hd ht r).1]
      unfold lkS
      rw [cS_o (by omega), cS_o (by omega)]
    rw [el]
    by_cases ct : t < frN V
    · have e0 : cS V S c 0 t = nI (c t) := if_pos ⟨rfl, ct⟩
      rw [e0, if_neg (show ¬ (frN V ≤ t ∧ S 0 t = nI r) from fun w => by omega)]
      by_cases cr : c t = r
      · rw [if_pos (by rw [cr]), if_pos ⟨ct, cr⟩, Nat.zero_add]
      · have := hc t ct
        rw [if_neg (fun w => cr ((nI_eq (by omega) (by omega)).mp w)), if_neg (fun w => cr w.2)]; rfl
    · have e0 : cS V S c 0 t = S 0 t := if_neg (fun w => ct w.2)
      rw [e0, if_neg (show ¬ (t < frN V ∧ c t = r) from fun w => ct w.1), Nat.add_zero]
      by_cases cr : S 0 t = nI r
      · rw [if_pos cr, if_pos ⟨by omega, cr⟩]
      · rw [if_neg cr, if_neg (fun w => cr w.2)]; rfl
  rw [sumT_nI e, sumT_add]
  unfold smN bsN
  rw [sumT_ext (f := fun t => if t < frN V ∧ c t = r then lkN V g ts S d t r else 0) (n := frN V) (m := V.1 2) (by unfold frN; omega) (fun i a b => if_neg (fun w => by omega))]
  rw [sumT_congr (f := fun t => if t < frN V ∧ c t = r then lkN V g ts S d t r else 0) (g := fun t => if c t = r then lkN V g ts S d t r else 0) (fun i hi => by simp only [hi, true_and])]
theorem al_c (hV : HW V) (hts : ∀ d, d < V.1 3 → Upto 9 (ts d)) {c : Nat → Nat} (hc : ∀ i, i < frN V → c i < V.1 0) : alS V g ts (cS V S c) = nI (lvN V g ts S c) := by
  unfold alS lvN
  refine sumT_nI fun d hd => ?_
  unfold pkN
  have key := mxO_bst (op := fun r => nbit (S 5 0) r) (lt := fun a b => likeR V g ts (cS V S c) d a < likeR V g ts (cS V S c) d b) (f := smN V g ts S (frN V) c d) (n := V.1 0) (fun a b ha hb => by
    have la := smN_le hV hts hd (n := frN V) (Nat.le_refl _) c a (g := g) (S := S)
    have lb := smN_le hV hts hd (n := frN V) (Nat.le_refl _) c b (g := g) (S := S)
    rw [like_c hV hts hc hd ha, like_c hV hts hc hd hb]
    exact nI_ltI (by omega) (by omega))
  rw [← key]
  have es : seatS V g ts (cS V S c) d = bst (fun r => nbit (S 5 0) r) (fun a b => likeR V g ts (cS V S c) d a < likeR V g ts (cS V S c) d b) (V.1 0) := by
    unfold seatS
    rw [show cS V S c 5 0 = S 5 0 from cS_o (by omega)]
  rw [es]
  cases e : bst (fun r => nbit (S 5 0) r) (fun a b => likeR V g ts (cS V S c) d a < likeR V g ts (cS V S c) d b) (V.1 0) with
  | none => rfl
  | some r => exact like_c hV hts hc hd (bst_ok e).1
def updc (c : Nat → Nat) (t r : Nat) : Nat → Nat := fun i => if i = t then r else c i
theorem smN_upd {n : Nat} {c : Nat → Nat} {t r d r' : Nat} (h : n ≤ t) : smN V g ts S n (updc c t r) d r' = smN V g ts S n c d r' := by
  unfold smN
  congr 1
  refine sumT_congr fun i hi => ?_
  unfold updc
  rw [if_neg (show ¬ i = t by omega)]
theorem smN_succ {t : Nat} {c : Nat → Nat} {r d r' : Nat} : smN V g ts S (t + 1) (updc c t r) d r' = smN V g ts S t c d r' + if r = r' then lkN V g ts S d t r' else 0 := by
  have := smN_upd (V := V) (g := g) (ts := ts) (S := S) (n := t) (c := c) (t := t) (r := r) (d := d) (r' := r') (Nat.le_refl _)
  rw [← this]
  unfold smN
  show _ + (sumT t _ + _) = _
  rw [← Nat.add_assoc]
  congr 1
  show (if updc c t r t = r' then _ else _) = _
  unfold updc
  rw [if_pos rfl]
theorem pkN_upd {n : Nat} {c : Nat → Nat} {t r d : Nat} (h : n ≤ t) : pkN V g ts S n (updc c t r) d = pkN V g ts S n c d := mxO_congr fun i _ => smN_upd h
theorem pkN_succ {t : Nat} {c : Nat → Nat} {r d : Nat} (hr : r < V.1 0) : pkN V g ts S (t + 1) (updc c t r) d = if nbit (S 5 0) r then max (pkN V g ts S t c d) (smN V g ts S (t + 1) (updc c t r) d r) else pkN V g ts S t c d := by
  unfold pkN
  rw [mxO_put (f := smN V g ts S t c d) (r := r) (fun i hi => by rw [smN_succ, if_neg (fun w => hi w.symm), Nat.add_zero]) (by rw [smN_succ]; omega) (V.1 0)]
  by_cases c1 : nbit (S 5 0) r
  · rw [if_pos ⟨c1, hr⟩, if_pos c1]
  · rw [if_neg (fun w => c1 w.1), if_neg c1]
end Lemmas
/-- the best of all -/
abbrev Ac : Type := Option (Nat × (Nat → Nat))
def hgL (f : Nat → Ac → Ac) : Nat → Ac → Ac
  | 0, a => a
  | r + 1, a => f r (hgL f r a)
def leafA (lv : (Nat → Nat) → Nat) (c : Nat → Nat) : Ac → Ac
  | none => some (lv c, c)
  | some p => if p.1 < lv c then some (lv c, c) else some p
def hgR (lv : (Nat → Nat) → Nat) (R : Nat) : Nat → Nat → (Nat → Nat) → Ac → Ac
  | 0, _, c, a => leafA lv c a
  | n + 1, t, c, a => hgL (fun r a => hgR lv R n (t + 1) (updc c t r) a) R a
theorem leafA_some (lv : (Nat → Nat) → Nat) (c : Nat → Nat) (a : Ac) : ∃ p, leafA lv c a = some p := by
  cases a with
  | none => exact ⟨_, rfl⟩
  | some p =>
    unfold leafA
    by_cases h : p.1 < lv c
    · exact ⟨_, if_pos h⟩
    · exact ⟨_, if_neg h⟩
theorem hgR_some (lv : (Nat → Nat) → Nat) {R : Nat} (hR : 0 < R) : ∀ n t c a, ∃ p, hgR lv R n t c a = some p
  | 0, t, c, a => leafA_some lv c a
  | n + 1, t, c, a => by
    unfold hgR
    obtain ⟨R', rfl⟩ : ∃ R', R = R' + 1 := ⟨R - 1, by omega⟩
    exact hgR_some lv hR n (t + 1) (updc c t R') _
def AccR (x : Int32) (row : Nat → Int32) (F : Nat) : Ac → Prop
  | none => x = -1
  | some p => x = nI p.1 ∧ p.1 < 2 ^ 31 ∧ ∀ i, i < F → row i = nI (p.2 i)
end Sim19
