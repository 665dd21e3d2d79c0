/-! the machine by which both read a law -/
abbrev ES : Type := Bool × Nat × List Nat × List (Int32 × Int32) × Nat × Nat
def rk (s : Nat) : Nat := if s = 10 then 1 else if s = 11 then 2 else if s = 12 then 3 else if 27 ≤ s ∧ s ≤ 32 then 4 else if s = 33 ∨ s = 34 then 5 else if s = 35 ∨ s = 36 then 6 else 0
def rkt : List Nat → Nat
  | [] => 0
  | s :: _ => rk s
abbrev kno (s : Nat) : Int32 × Int32 := (nI s, 0)
def popR (r : Nat) : List Nat → List (Int32 × Int32) → List Nat × List (Int32 × Int32)
  | [], o => ([], o)
  | s :: st, o => if r ≤ rk s then popR r st (o ++ [kno s]) else (s :: st, o)
def stF (t : TQ) (k : Nat) (st : List Nat) (o : List (Int32 × Int32)) (kn op : Nat) : Nat ⊕ ES :=
  if (t k).1 = 25 then (if op < 8 then .inr (false, k + 1, 25 :: st, o, kn, op + 1) else .inl 2)
  else if (t k).1 = 12 ∧ rkt st ≤ 3 then (if kn < 64 then .inr (false, k + 1, 12 :: st, o, kn + 1, op) else .inl 2)
  else if (t k).1 = 21 ∨ (13 ≤ (t k).1 ∧ (t k).1 ≤ 19) then (if kn < 64 then (if (t k).1 = 21 ∧ 9999 < (t k).2.2.1 then .inl 2 else .inr (true, k + 1, st, o ++ [(nI (t k).1, if (t k).1 = 21 then nI (t k).2.2.1 else 0)], kn + 1, op)) else .inl 2)
  else .inl 1
def stT (t : TQ) (k : Nat) (st : List Nat) (o : List (Int32 × Int32)) (kn op : Nat) : Nat ⊕ ES :=
  if (t k).1 = 24 ∧ op = 0 then .inl 0
  else if (t k).1 = 26 then (if 0 < op then .inr (true, k + 1, (popR 1 st o).1.tail, (popR 1 st o).2, kn, op - 1) else .inl 1)
  else if rk (t k).1 = 0 ∨ (t k).1 = 12 then .inl 1
  else if rk (t k).1 = 4 ∧ rkt (popR 5 st o).1 = 4 then .inl 1
  else if kn < 64 then .inr (false, k + 1, (t k).1 :: (popR (if rk (t k).1 = 4 then 5 else rk (t k).1) st o).1, (popR (if rk (t k).1 = 4 then 5 else rk (t k).1) st o).2, kn + 1, op) else .inl 2
def stp (t : TQ) : ES → Nat ⊕ ES
  | (false, k, st, o, kn, op) => stF t k st o kn op
  | (true, k, st, o, kn, op) => stT t k st o kn op
def itr (t : TQ) : Nat → ES → Option ES
  | 0, x => some x
  | n + 1, x => match stp t x with
    | .inr y => itr t n y
    | .inl _ => none
def Rch (t : TQ) (x y : ES) : Prop := ∃ n, itr t n x = some y
theorem Rch.rfl' {t : TQ} {x : ES} : Rch t x x := ⟨0, rfl⟩
theorem Rch.head {t : TQ} {x y z : ES} (h : stp t x = .inr y) (r : Rch t y z) : Rch t x z := by
  obtain ⟨n, r⟩ := r
  exact ⟨n + 1, by unfold itr; rw [h]; exact r⟩
theorem itr_add {t : TQ} : ∀ {n m : Nat} {x y z : ES}, itr t n x = some y → itr t m y = some z → itr t (n + m) x = some z
  | 0, m, x, y, z, h1, h2 => by cases h1; rw [Nat.zero_add]; exact h2
  | n + 1, m, x, y, z, h1, h2 => by
    rw [Nat.add_right_comm]
    unfold itr at h1 ⊢
    cases e : stp t x with
    | inl c => rw [e] at h1; cases h1
    | inr w => rw [e] at h1; exact itr_add h1 h2
theorem Rch.trans {t : TQ} {x y z : ES} (a : Rch t x y) (b : Rch t y z) : Rch t x z := by
  obtain ⟨n, a⟩ := a
  obtain ⟨m, b⟩ := b
  exact ⟨n + m, itr_add a b⟩
theorem Rch.one {t : TQ} {x y : ES} (h : stp t x = .inr y) : Rch t x y := Rch.head h Rch.rfl'
theorem itr_det {t : TQ} : ∀ {n m : Nat} {x a c : ES} {u v : Nat}, itr t n x = some a → itr t m x = some c → stp t a = .inl u → stp t c = .inl v → a = c
  | 0, 0, x, a, c, u, v, h1, h2, _, _ => by cases h1; cases h2; rfl
  | 0, m + 1, x, a, c, u, v, h1, h2, h3, _ => by
    cases h1
    unfold itr at h2
    rw [h3] at h2
    cases h2
  | n + 1, 0, x, a, c, u, v, h1, h2, _, h4 => by
    cases h2
    unfold itr at h1
    rw [h4] at h1
    cases h1
  | n + 1, m + 1, x, a, c, u, v, h1, h2, h3, h4 => by
    unfold itr at h1 h2
    cases e : stp t x with
    | inl w => rw [e] at h1; cases h1
    | inr w => rw [e] at h1 h2; exact itr_det h1 h2 h3 h4
theorem Rch.det {t : TQ} {x a c : ES} {u v : Nat} (h1 : Rch t x a) (h2 : Rch t x c) (h3 : stp t a = .inl u) (h4 : stp t c = .inl v) : a = c := by
  obtain ⟨n, h1⟩ := h1
  obtain ⟨m, h2⟩ := h2
  exact itr_det h1 h2 h3 h4
def opsN : List Nat → Nat
  | [] => 0
  | s :: st => (if s = 25 then 0 else 1) + opsN st
def opn : List Nat → Nat
  | [] => 0
  | s :: st => (if s = 25 then 1 else 0) + opn st
def bns : List Nat → Nat
  | [] => 0
  | s :: st => (if s = 25 ∨ s = 12 then 0 else 1) + bns st
theorem len_st : ∀ st, st.length = opsN st + opn st
  | [] => rfl
  | s :: st => by
    have h := len_st st
    show st.length + 1 = ((if s = 25 then 0 else 1) + opsN st) + ((if s = 25 then 1 else 0) + opn st)
    by_cases q : s = 25
    · rw [if_pos q, if_pos q]; omega
    · rw [if_neg q, if_neg q]; omega
def Iv (base : Nat) (x : ES) : Prop := base + x.2.2.2.1.length + opsN x.2.2.1 = x.2.2.2.2.1 ∧ x.2.2.2.2.1 ≤ 64 ∧ opn x.2.2.1 = x.2.2.2.2.2 ∧ x.2.2.2.2.2 ≤ 8 ∧ (∀ s ∈ x.2.2.1, s = 25 ∨ 1 ≤ rk s) ∧ (∀ p ∈ x.2.2.2.1, gk p.1) ∧ dp x.2.2.2.1 0 = some (bns x.2.2.1 + if x.1 = true then 1 else 0)
theorem rk_le {s : Nat} (h : 1 ≤ rk s) : s ≤ 36 ∧ ¬ s = 25 ∧ 10 ≤ s := by
  unfold rk at h
  repeat' split at h
  all_goals omega
theorem rk_tk : ∀ s, s < 37 → 1 ≤ rk s → gk (nI s) ∧ tk (nI s) = if s = 12 then 1 else 2 := by decide +kernel
theorem nm_tk : ∀ s, s < 37 → (s = 21 ∨ (13 ≤ s ∧ s ≤ 19)) → gk (nI s) ∧ tk (nI s) = 0 := by decide +kernel
theorem dp_app (p : Int32 × Int32) : ∀ (o : List (Int32 × Int32)) (d e : Nat), dp o d = some e → dp (o ++ [p]) d = if e < tk p.1 then none else some (e - tk p.1 + 1)
  | [], d, e, h => by
    cases h
    show dp [p] d = _
    unfold dp
    split
    · rfl
    · rfl
  | k :: o, d, e, h => by
    rw [List.cons_append]
    unfold dp at h ⊢
    split at h
    · cases h
    · rename_i q
      rw [if_neg q]
      exact dp_app p o _ e h
theorem Iv.pop1 {base k kn op s : Nat} {st : List Nat} {o : List (Int32 × Int32)} (h : Iv base (true, k, s :: st, o, kn, op)) (hs : 1 ≤ rk s) : Iv base (true, k, st, o ++ [kno s], kn, op) := by
  obtain ⟨h1, h2, h3, h4, h5, h6, h7⟩ := h
  dsimp only at h1 h2 h3 h4 h5 h6 h7
  have r := rk_le hs
  obtain ⟨g, tk'⟩ := rk_tk s (by omega) hs
  unfold opsN at h1
  unfold opn at h3
  unfold bns at h7
  rw [if_neg r.2.1] at h1 h3
  refine ⟨?_, h2, ?_, h4, fun z hz => h5 z (List.mem_cons_of_mem _ hz), ?_, ?_⟩
  · dsimp only; rw [List.length_append, List.length_singleton]; omega
  · dsimp only; omega
  · intro p hp
    rcases List.mem_append.mp hp with q | q
    · exact h6 p q
    · rw [List.mem_singleton.mp q]; exact g
  · dsimp only
    rw [if_pos rfl] at h7 ⊢
    rw [dp_app _ _ _ _ h7, tk']
    by_cases e : s = 12
    · rw [if_pos e, if_pos (Or.inr e), if_neg (by omega)]
      congr 1
      omega
    · rw [if_neg e, if_neg (show ¬ (s = 25 ∨ s = 12) by omega), if_neg (by omega)]
      congr 1
      omega
theorem Iv.pop {base k kn op r : Nat} (hr : 1 ≤ r) : ∀ {st : List Nat} {o : List (Int32 × Int32)}, Iv base (true, k, st, o, kn, op) → Iv base (true, k, (popR r st o).1, (popR r st o).2, kn, op)
  | [], o, h => h
  | s :: st, o, h => by
    show Iv base (true, k, (if r ≤ rk s then popR r st (o ++ [kno s]) else (s :: st, o)).1, (if r ≤ rk s then popR r st (o ++ [kno s]) else (s :: st, o)).2, kn, op)
    by_cases q : r ≤ rk s
    · rw [if_pos q]
      exact Iv.pop hr (h.pop1 (by omega))
    · rw [if_neg q]
      exact h
theorem pop_rkt {r : Nat} (hr : 1 ≤ r) : ∀ {st : List Nat} {o : List (Int32 × Int32)}, rkt (popR r st o).1 < r
  | [], o => hr
  | s :: st, o => by
    show rkt (if r ≤ rk s then popR r st (o ++ [kno s]) else (s :: st, o)).1 < r
    by_cases q : r ≤ rk s
    · rw [if_pos q]; exact pop_rkt hr
    · rw [if_neg q]; show rk s < r; omega
theorem pop_app {r : Nat} {st : List Nat} : ∀ {pend : List Nat} {o : List (Int32 × Int32)}, (∀ p ∈ pend, r ≤ rk p) → rkt st < r → popR r (pend ++ st) o = (st, o ++ pend.map kno)
  | [], o, _, h => by
    rw [List.nil_append, List.map_nil, List.append_nil]
    cases st with
    | nil => rfl
    | cons s st => exact if_neg (Nat.not_le.mpr h)
  | s :: pend, o, hp, h => by
    show (if r ≤ rk s then popR r (pend ++ st) (o ++ [kno s]) else _) = _
    rw [if_pos (hp s (List.mem_cons_self)), pop_app (fun p q => hp p (List.mem_cons_of_mem _ q)) h, List.map_cons, List.append_assoc]
    rfl
/-- what holds stays through a step -/
theorem Iv.close {base k kn op : Nat} {st : List Nat} {o : List (Int32 × Int32)} (h : Iv base (true, k, st, o, kn, op)) (h0 : 0 < op) : ∃ st', (popR 1 st o).1 = 25 :: st' := by
  have h1 := Iv.pop (r := 1) (by omega) h
  have h2 := pop_rkt (r := 1) (by omega) (st := st) (o := o)
  generalize popR 1 st o = w at h1 h2 ⊢
  obtain ⟨st', o'⟩ := w
  obtain ⟨-, -, g3, -, g5, -⟩ := h1
  dsimp only at g3 g5 h2 ⊢
  cases st' with
  | nil => rw [← g3] at h0; exact absurd h0 (by unfold opn; omega)
  | cons s st' =>
    rcases g5 s (List.mem_cons_self) with q | q
    · exact ⟨st', by rw [q]⟩
    · have : rk s < 1 := h2
      omega
theorem Iv.step {base : Nat} {t : TQ} (hT : ∀ k, (t k).1 ≤ 36) : ∀ {x y : ES}, Iv base x → stp t x = .inr y → Iv base y
  | (false, k, st, o, kn, op), y, h, e => by
    obtain ⟨h1, h2, h3, h4, h5, h6, h7⟩ := id h
    dsimp only at h1 h2 h3 h4 h5 h6 h7
    change stF t k st o kn op = .inr y at e
    unfold stF at e
    split at e
    · split at e
      · cases e
        refine ⟨?_, h2, ?_, ?_, ?_, h6, ?_⟩
        · dsimp only; unfold opsN; rw [if_pos rfl]; omega
        · dsimp only; unfold opn; rw [if_pos rfl]; omega
        · dsimp only; omega
        · intro s hs
          rcases List.mem_cons.mp hs with q | q
          · exact Or.inl q
          · exact h5 s q
        · dsimp only; unfold bns; rw [if_pos (Or.inl rfl), h7, Nat.zero_add]
      · cases e
    · split at e
      · split at e
        · cases e
          refine ⟨?_, ?_, ?_, h4, ?_, h6, ?_⟩
          · dsimp only; unfold opsN; rw [if_neg (by decide)]; omega
          · dsimp only; omega
          · dsimp only; unfold opn; rw [if_neg (by decide)]; omega
          · intro s hs
            rcases List.mem_cons.mp hs with q | q
            · exact Or.inr (by rw [q]; decide)
            · exact h5 s q
          · dsimp only; unfold bns; rw [if_pos (Or.inr rfl), h7, Nat.zero_add]
        · cases e
      · split at e
        · rename_i q
          split at e
          · split at e
            · cases e
            · cases e
              obtain ⟨g, tk'⟩ := nm_tk _ (Nat.lt_succ_of_le (hT k)) q
              refine ⟨?_, ?_, h3, h4, h5, ?_, ?_⟩
              · dsimp only; rw [List.length_append, List.length_singleton]; omega
              · dsimp only; omega
              · intro p hp
                rcases List.mem_append.mp hp with z | z
                · exact h6 p z
                · rw [List.mem_singleton.mp z]; exact g
              · dsimp only
                rw [dp_app _ _ _ _ h7, tk', if_neg (by omega), if_pos rfl]
                rfl
          · cases e
        · cases e
  | (true, k, st, o, kn, op), y, h, e => by
    change stT t k st o kn op = .inr y at e
    unfold stT at e
    split at e
    · cases e
    · split at e
      · split at e
        · rename_i h0
          cases e
          obtain ⟨st', hst⟩ := h.close h0
          have h1 := Iv.pop (r := 1) (by omega) h
          rw [hst] at h1 ⊢
          obtain ⟨g1, g2, g3, g4, g5, g6, g7⟩ := h1
          dsimp only at g1 g2 g3 g4 g5 g6 g7
          unfold opsN at g1
          unfold opn at g3
          unfold bns at g7
          rw [if_pos rfl] at g1 g3
          rw [if_pos (Or.inl rfl), Nat.zero_add] at g7
          refine ⟨?_, g2, ?_, ?_, fun s hs => g5 s (List.mem_cons_of_mem _ hs), g6, g7⟩
          · show base + (popR 1 st o).2.length + opsN st' = kn
            omega
          · show opn st' = op - 1
            omega
          · show op - 1 ≤ 8
            omega
        · cases e
      · split at e
        · cases e
        · rename_i q1
          split at e
          · cases e
          · split at e
            · cases e
              have hr : 1 ≤ (if rk (t k).1 = 4 then 5 else rk (t k).1) := by split <;> omega
              have h1 := Iv.pop hr h
              generalize popR (if rk (t k).1 = 4 then 5 else rk (t k).1) st o = w at h1 ⊢
              obtain ⟨st', o'⟩ := w
              obtain ⟨g1, g2, g3, g4, g5, g6, g7⟩ := h1
              dsimp only at g1 g2 g3 g4 g5 g6 g7
              have r := rk_le (s := (t k).1) (by omega)
              refine ⟨?_, ?_, ?_, g4, ?_, g6, ?_⟩
              · dsimp only; unfold opsN; rw [if_neg r.2.1]; omega
              · dsimp only; omega
              · dsimp only; unfold opn; rw [if_neg r.2.1]; omega
              · intro s hs
                rcases List.mem_cons.mp hs with q | q
                · exact Or.inr (by rw [q]; omega)
                · exact g5 s q
              · dsimp only
                unfold bns
                rw [if_neg (show ¬ ((t k).1 = 25 ∨ (t k).1 = 12) by omega), g7, if_pos rfl, if_neg (by decide)]
                congr 1
                omega
            · cases e
theorem Iv.rch {base : Nat} {t : TQ} (hT : ∀ k, (t k).1 ≤ 36) {x y : ES} (h : Iv base x) (r : Rch t x y) : Iv base y := by
  obtain ⟨n, r⟩ := r
  induction n generalizing x with
  | zero => cases r; exact h
  | succ n ih =>
    unfold itr at r
    cases e : stp t x with
    | inl c => rw [e] at r; cases r
    | inr w => rw [e] at r; exact ih (h.step hT e) r
